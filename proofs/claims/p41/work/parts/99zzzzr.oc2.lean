section OC2
variable {h a : vH} {n m p q l x s u v w d f r y c : Int}
theorem P1_c {b : vH} : tP1 b p l x 2 305 p = l ∧ tP1 b p l x 2 306 p = x := by
  unfold tP1 tWn tGo
  refine ⟨?_, ?_⟩
  · rw [vup_r (by decide), vup_r (by decide), vup_s]
  · rw [vup_r (by decide), vup_s]
theorem O_hide (j : JG n m h a) (hn : 0 ≤ n ∧ n ≤ 9000) (hp : 0 ≤ p ∧ p < 4) (hl : 0 ≤ l ∧ l < a 1504 282 0) (hf : 0 ≤ f ∧ f < u) (hu : u ≤ a 2 284 l) : ∃ h1 a1 v, vcl mL_on [(1, 3), (0, 7), (0, p), (0, l), (0, f), (0, u)] h = some (.inl (some (0, v)), h1) ∧ JG (n + 1) (m + 1) h1 a1 ∧ (v = -13 ∨ 0 ≤ v ∧ v < 7) := by
  have z := j.2.1.1
  have n6 := (iG_n6 z.1.1 p hp.1 hp.2).1
  obtain ⟨h1, c1, c2⟩ := S_e j (Cq_hide j.1 z.1.1 j.2.2.1) (iP_hide (p := p) (l := l) (f := f) (u := u) j.2.1 hn)
  by_cases c : a 2 293 p = 6
  · have k : kHd a p l f u = 3 := by unfold kHd; rw [if_pos ⟨hp, hl⟩, if_pos ⟨by omega, hf⟩, if_pos c]
    rw [k] at c1
    exact ⟨h1, _, _, onx (jPL j) (asx_hide (jPL j) c1), c2, Or.inl rfl⟩
  · rw [if_pos (kHd_0.mpr ⟨⟨hp, hl⟩, ⟨by omega, hf⟩, c⟩)] at c1
    exact ⟨h1, _, _, onv (jPL j) (asv_hide (jPL j) c1), c2, Or.inr (by omega)⟩
theorem V_virtual (j : JG n m h a) (hn : 0 ≤ n ∧ n ≤ 9000) (hp : 0 ≤ p ∧ p < 4) (hl : 0 ≤ l ∧ l < a 1504 282 0) (hf : 0 ≤ f ∧ f ≤ a 2 284 l) (hu : isVt u) (hz : -9223372036854775808 ≤ u ∧ u < 9223372036854775808) : ∃ h1 a1 v, vcl mL_virtuals [(1, 3), (0, p), (0, l), (0, f), (2, u)] h = some (.inl (some (0, v)), h1) ∧ JG (n + 1) (m + 1) h1 a1 ∧ (v = -13 ∨ 0 < v ∧ v < 7) := by
  have z := j.2.1.1
  have n6 := (iG_n6 z.1.1 p hp.1 hp.2).2.1
  obtain ⟨h1, c1, c2⟩ := S_e j (Cq_addVirtual j.1 z.1.1 j.2.2.1 hz) (iP_addVirtual (p := p) (l := l) (f := f) (u := u) j.2.1 hn)
  by_cases c : a 2 297 p = 6
  · have k : kAv a p l f u = 3 := by unfold kAv; rw [if_pos ⟨hp, hl⟩, if_pos ⟨hf, hu⟩, if_pos c]
    rw [k] at c1
    exact ⟨h1, _, _, vix (jPL j) c1, c2, Or.inl rfl⟩
  · rw [if_pos (kAv_0.mpr ⟨⟨hp, hl⟩, ⟨hf, hu⟩, c⟩)] at c1
    exact ⟨h1, _, _, viv (jPL j) c1, c2, Or.inr (by omega)⟩
theorem O_fold (j : JG n m h a) (hn : 0 ≤ n ∧ n ≤ 9000) (hp : 0 ≤ p ∧ p < 4) (hf : 0 ≤ f ∧ f < u) (hu : u < a 1504 282 0) : ∃ h1 a1 v, vcl mL_on [(1, 3), (0, 8), (0, p), (0, f), (0, u), (0, 0)] h = some (.inl (some (0, v)), h1) ∧ JG (n + 1) (m + 1) h1 a1 ∧ (v = -13 ∨ 0 ≤ v ∧ v < 7) := by
  have z := j.2.1.1
  have n6 := (iG_n6 z.1.1 p hp.1 hp.2).2.2
  obtain ⟨h1, c1, c2⟩ := S_e j (Cq_addFold j.1 z.1.1 j.2.2.1) (iP_addFold (p := p) (f := f) (u := u) j.2.1 hn)
  by_cases c : a 2 301 p = 6
  · have k : kAf a p f u = 3 := by unfold kAf; rw [if_pos ⟨hp, by omega, by omega⟩, if_pos hf.2, if_pos c]
    rw [k] at c1
    exact ⟨h1, _, _, onx (jPL j) (asx_addFold (jPL j) c1), c2, Or.inl rfl⟩
  · rw [if_pos (kAf_0.mpr ⟨⟨hp, by omega, by omega⟩, hf.2, c⟩)] at c1
    exact ⟨h1, _, _, onv (jPL j) (asv_addFold (jPL j) c1), c2, Or.inr (by omega)⟩
theorem C_close9 (j : JG n m h a) (hp : 0 ≤ p ∧ p < 4) (hx : 0 ≤ x ∧ x < 4) (hv : v = 0 ∨ v = 1) : ∃ h1 a1 w, vcl mL_closes [(1, 3), (0, p), (0, x), (0, v)] h = some (.inl (some (0, w)), h1) ∧ JG (n + 1) (m + 1) h1 a1 ∧ w < 2 := by
  have z := j.2.1.1
  have n6 := (iG_n6 z.1.1 p hp.1 hp.2).2.2
  obtain ⟨h1, c1, c2⟩ := S_e j (cN_of j.2.2.1 (Cq_setClosed j.1 z.1.1 z.1.2.2.2 hv)) (iP_setClosed (p := p) (x := x) (v := v) j.2.1 hv)
  by_cases c : x < a 2 301 p
  · rw [if_pos (kSl_0.mpr ⟨hp, hx.1, c⟩)] at c1
    rcases z.1.2.2.2 (6 * p + x) (by omega) (by omega) with e | e
    · rw [e] at c1
      exact ⟨h1, _, _, clv0 (jPL j) c1, c2, by decide⟩
    · rw [e] at c1
      exact ⟨h1, _, _, clv1 (jPL j) c1, c2, by decide⟩
  · have k : kSl a p x = 2 := by unfold kSl; rw [if_pos hp, if_neg (by omega)]
    rw [k] at c1
    exact ⟨h1, _, _, clx (jPL j) c1, c2, by decide⟩
theorem O_open (j : JG n m h a) (hp : 0 ≤ p ∧ p < 4) : ∃ h1 a1 v, vcl mL_on [(1, 3), (0, 3), (0, p), (0, 0), (0, 0), (0, 0)] h = some (.inl (some (0, v)), h1) ∧ JG (n + 1) (m + 1) h1 a1 ∧ (v = -13 ∨ 0 < v ∧ v ≤ 24) := by
  have z := j.2.1.1
  obtain ⟨h1, c1, c2⟩ := S_e j (cN_of j.2.2.1 (Cq_open (p := p) j.1 z.1.1 z.1.2.1)) (iP_open (p := p) j.2.1)
  by_cases k : kOp a p = 0
  · have P := iP_open (p := p) j.2.1
    have e : tOp a p = tO1 (th 0 a) p 1 := if_pos k
    rw [e] at P
    have i := P.1.1.2.1.2.2.1 p hp.1 hp.2
    have o : tO1 (th 0 a) p 1 2 289 p = 1 := (st_r hp).1.trans (if_pos rfl)
    have i2 := i.2 (by rw [o]; decide)
    rw [if_pos k] at c1
    have ev : vOp a p = tO1 (th 0 a) p 1 2 310 p := rfl
    exact ⟨h1, _, _, onv (jPL j) (asv_open (jPL j) c1), c2, Or.inr ⟨by omega, by omega⟩⟩
  · have k2 : kOp a p = 2 := by
      unfold kOp at k ⊢
      rw [if_pos hp] at k ⊢
      split at k
      · exact absurd rfl k
      · rename_i q; rw [if_neg q]
    rw [k2] at c1
    exact ⟨h1, _, _, onx (jPL j) (asx_open (jPL j) c1), c2, Or.inl rfl⟩
theorem O_close (j : JG n m h a) (hp : 0 ≤ p ∧ p < 4) : ∃ h1 a1 v, vcl mL_on [(1, 3), (0, 4), (0, p), (0, 0), (0, 0), (0, 0)] h = some (.inl (some (0, v)), h1) ∧ JG (n + 1) (m + 1) h1 a1 ∧ (v = -13 ∨ 0 < v ∧ v ≤ 24) := by
  have z := j.2.1.1
  obtain ⟨h1, c1, c2⟩ := S_e j (cN_of j.2.2.1 (Cq_close (p := p) j.1 z.1.1 z.1.2.1)) (iP_close (p := p) j.2.1)
  by_cases k : kCs a p = 0
  · obtain ⟨z1, z2, z3⟩ := kCs_0.mp k
    have ge := on_ge z1 z2
    have ev : vCs a p = sSm (sOn (ud (a 2 289) p 0)) 4 := by unfold vCs; rw [th_e]
    have dn := on_dn z1 z2
    have le : ∀ i, sOn (a 2 289) i ≤ 1 := fun i => by unfold sOn; split <;> omega
    have s4 := sSm_4 (g := sOn (a 2 289))
    have l0 := le 0
    have l1 := le 1
    have l2 := le 2
    have l3 := le 3
    rw [if_pos k] at c1
    exact ⟨h1, _, _, onv (jPL j) (asv_close (jPL j) c1), c2, Or.inr ⟨by omega, by omega⟩⟩
  · have k2 : kCs a p = 2 := by
      unfold kCs at k ⊢
      rw [if_pos hp] at k ⊢
      split at k
      · rename_i q; rw [if_pos q]
      · exact absurd rfl k
    rw [k2] at c1
    exact ⟨h1, _, _, onx (jPL j) (asx_close (jPL j) c1), c2, Or.inl rfl⟩
theorem O_share (j : JG n m h a) (hp : 0 ≤ p ∧ p < 4) (hw : 1 ≤ w ∧ w ≤ 9) (hl : 1 ≤ l ∧ l ≤ 8) (hs : s = -1 ∨ 1 ≤ s ∧ s ≤ 16) : ∃ h1 a1 v, vcl mL_on [(1, 3), (0, 5), (0, p), (0, w), (0, l), (0, s)] h = some (.inl (some (0, v)), h1) ∧ JG (n + 1) (m + 1) h1 a1 ∧ (v = -13 ∨ v = a1 2 310 p) := by
  have z := j.2.1.1
  obtain ⟨h1, c1, c2⟩ := S_e j (cN_of j.2.2.1 (Cq_share (p := p) (w := w) (l := l) (m := s) j.1 z.1.1 z.1.2.1)) (iP_share (p := p) (w := w) (l := l) (s := s) j.2.1)
  by_cases k : kSh a p w l s = 0
  · have e : tSh a p w l s = tS1 (th 0 a) p w l s := if_pos k
    rw [if_pos k] at c1
    exact ⟨h1, _, _, onv (jPL j) (asv_share (jPL j) c1), c2, Or.inr (by rw [e]; rfl)⟩
  · have k2 : kSh a p w l s = 3 := by
      unfold kSh at k ⊢
      rw [if_pos hp, if_pos ⟨by omega, by omega, by omega⟩] at k ⊢
      split at k
      · rename_i q; rw [if_pos q]
      · exact absurd rfl k
    rw [k2] at c1
    exact ⟨h1, _, _, onx (jPL j) (asx_share (jPL j) c1), c2, Or.inl rfl⟩
theorem S_shape (j : JG n m h a) (hp : 0 ≤ p ∧ p < 4) (hw : 10 ≤ w ∧ w ≤ 40) (hd : 0 ≤ d ∧ d ≤ 4) (hs : 0 ≤ s ∧ s ≤ 3) : ∃ h1 a1, vcl mX12_shape [(1, 3), (0, p), (0, w), (0, d), (0, s)] h = some (.inl none, h1) ∧ JG (n + 1) (m + 1) h1 a1 := by
  obtain ⟨h1, c1, c2⟩ := S_v j (kSp_0.mpr ⟨hp, hw, hd, hs⟩) (Cq_shape (p := p) (w := w) (d := d) (m := s) j.1) (iP_shape (p := p) (w := w) (d := d) (s := s) j.2.1)
  exact ⟨h1, _, c1, c2⟩
theorem O_play (j : JG n m h a) (hq : 0 ≤ q ∧ q < 4) (hp : 0 ≤ p ∧ p < 4) : ∃ h1 a1 v, vcl mL_on [(1, 3), (0, 10), (0, q), (0, p), (0, 0), (0, 0)] h = some (.inl (some (0, v)), h1) ∧ JG (n + 1) (m + 1) h1 a1 ∧ (v = -13 ∧ a1 2 310 p = 0 ∨ 0 ≤ v ∧ v ≤ 50) := by
  have z := j.2.1.1
  obtain ⟨h1, c1, c2⟩ := S_e j (cN_of j.2.2.1 (Cq_play (fr := q) (to := p) j.1 z.1.1 z.1.2.1)) (iP_play (p := q) (q := p) j.2.1)
  by_cases k : a 2 289 p = 0
  · have k2 : kPy a q p = 2 := by unfold kPy; rw [if_pos ⟨hq, hp⟩, if_pos k]
    have e : tPy a q p = th 2 a := by
      unfold tPy
      rw [if_neg (by rw [k2]; decide), k2]
    rw [k2] at c1
    refine ⟨h1, _, _, onx (jPL j) (asx_play (jPL j) c1), c2, Or.inl ⟨rfl, ?_⟩⟩
    rw [e]
    exact j.2.1.2.1.1 p hp.1 hp.2 k
  · rw [if_pos (kPy_0.mpr ⟨⟨hq, hp⟩, k⟩)] at c1
    refine ⟨h1, _, _, onv (jPL j) (asv_play (jPL j) c1), c2, Or.inr ?_⟩
    have ln := z.1.2.1.2.2.2.2.1.1
    have B : ∀ (A : vH) (fr to : Int) (f : Nat) (k : Int) (b : vH) (n : Int), n ≤ (plH A fr to f k b n).2 ∧ (plH A fr to f k b n).2 ≤ n + f := by
      intro A fr to f
      induction f with
      | zero => intro k b n; exact ⟨Int.le_refl _, by show n ≤ n + ((0 : Nat) : Int); omega⟩
      | succ f ih =>
        intro k b n
        have m01 := mvd_01 (a := b) (p := to) (mv := A 2 335 k)
        show n ≤ (if A 2 334 k = fr then plH A fr to f (k + 1) (tMk b to (A 2 335 k)) (n + mvd b to (A 2 335 k)) else plH A fr to f (k + 1) b n).2 ∧ (if A 2 334 k = fr then plH A fr to f (k + 1) (tMk b to (A 2 335 k)) (n + mvd b to (A 2 335 k)) else plH A fr to f (k + 1) b n).2 ≤ n + ((f + 1 : Nat) : Int)
        split
        · have := ih (k + 1) (tMk b to (A 2 335 k)) (n + mvd b to (A 2 335 k)); omega
        · have := ih (k + 1) b n; omega
    have b := B (th 0 a) q p (a 1559 282 0).toNat 0 (th 0 a) 0
    have e : vPy a q p = (plH (th 0 a) q p (a 1559 282 0).toNat 0 (th 0 a) 0).2 := rfl
    rw [e]
    omega
theorem O_put (j : JG n m h a) (hp : 0 ≤ p ∧ p < 4) (hl : 0 ≤ l ∧ l < a 1504 282 0) (hx : 0 ≤ x ∧ x ≤ a 2 284 l) : ∃ h1 a1 v, vcl mL_on [(1, 3), (0, 6), (0, p), (0, l), (0, x), (0, 0)] h = some (.inl (some (0, v)), h1) ∧ JG (n + 1) (m + 1) h1 a1 ∧ ((v = -13 ∧ a1 1504 282 0 = a 1504 282 0 ∧ (a1 2 310 p = 0 ∨ mRC a1 p l = 0)) ∨ (0 ≤ v ∧ v = cuR a1 p ∧ cuL a1 p = l ∧ cuX a1 p = x ∧ a1 2 307 p = cuC a1 p)) := by
  have z := j.2.1.1
  have g := z.1.1
  obtain ⟨h1, c1, c2⟩ := S_e j (cN_of j.2.2.1 (Cq_put (p := p) (l := l) (x := x) j.1 z.1.1 z.1.2.1)) (iP_put (p := p) (l := l) (x := x) j.2.1)
  by_cases k : kPu a p l x = 0
  · obtain ⟨z1, z2, z3, z4⟩ := kPu_0.mp k
    have e : tPu a p l x = tLk (tP1 (th 0 a) p l x) p := if_pos k
    rw [if_pos k] at c1
    refine ⟨h1, _, _, onv (jPL j) (asv_put (jPL j) c1), c2, Or.inr ?_⟩
    have g0 : iG (th 0 a) := iG_tk g
    have y1 : eqA (th 0 a) (tP1 (th 0 a) p l x) := eqB_A eqB_P1
    have y2 : eqA (tP1 (th 0 a) p l x) (tLk (tP1 (th 0 a) p l x) p) := eqA_lk
    have qq : isQ (th 0 a) p (l, x) := ⟨hl, hx, z4⟩
    have s := cu_set (b := tP1 (th 0 a) p l x) g0 hp qq P1_c.1 P1_c.2 y1
    have s1 := cuL_eq (p := p) y2.1 eqC_lk
    have s2 := cuX_eq (p := p) y2.1 eqC_lk
    have s3 := cuC_eq (p := p) y2.1 eqC_lk
    have gI := c2.2.1.1.1.1
    have ci := (cu_in gI hp).2.2.2.1.1
    rw [e] at ci ⊢
    refine ⟨?_, rfl, s1.trans s.1, s2.trans s.2, ?_⟩
    · exact ci
    · rw [s3, lk_q (by decide) (by decide)]
      have w : cuC (tP1 (th 0 a) p l x) p = cuC (tGo (th 0 a) p l x) p := cuC_eq (a := tGo (th 0 a) p l x) (b := tP1 (th 0 a) p l x) eqA_wn.1 eqC_wn
      rw [w]
      exact vup_s
  · have k3 : kPu a p l x = 3 ∧ (a 2 289 p = 0 ∨ mInv a p l) := by
      unfold kPu at k ⊢
      rw [if_pos ⟨hp, hl⟩, if_pos hx] at k ⊢
      by_cases c : a 2 289 p = 0
      · rw [if_pos c]; exact ⟨rfl, Or.inl c⟩
      · rw [if_neg c] at k ⊢
        by_cases c2 : mInv a p l
        · rw [if_pos c2]; exact ⟨rfl, Or.inr c2⟩
        · rw [if_neg c2] at k; exact absurd rfl k
    have e : tPu a p l x = th 3 a := by
      unfold tPu
      rw [if_neg (by rw [k3.1]; decide), k3.1]
    rw [k3.1] at c1
    refine ⟨h1, _, _, onx (jPL j) (asx_put (jPL j) c1), c2, Or.inl ⟨rfl, ?_, ?_⟩⟩
    · rw [e]; rfl
    · rw [e]
      rcases k3.2 with c | c
      · exact Or.inl (j.2.1.2.1.1 p hp.1 hp.2 c)
      · exact Or.inr (if_pos c)
theorem O_type (j : JG n m h a) (hn : 0 ≤ n ∧ n ≤ 9000) (hp : 0 ≤ p ∧ p < 4) (hs : sgOk s) (h80 : a 2 284 (cuL a p) < 80) : ∃ h1 a1 v, vcl mL_on [(1, 3), (0, 9), (0, p), (0, s), (0, 0), (0, 0)] h = some (.inl (some (0, v)), h1) ∧ JG (n + 1) (m + 1) h1 a1 ∧ (v = -13 ∧ a1 2 310 p = 0 ∨ 0 ≤ v ∧ v = cuX a p + 1 ∧ cuX a1 p = cuX a p + 1 ∧ cuL a1 p = cuL a p) := by
  have z := j.2.1.1
  have g := z.1.1
  obtain ⟨h1, c1, c2⟩ := S_e j (cN_of j.2.2.1 (Cq_type (p := p) (s := s) j.1 z.1 z.2.1 hn)) (iP_type (p := p) (s := s) j.2.1 hn)
  by_cases k : a 2 289 p = 0
  · have k2 : kTy a p s = 3 := by unfold kTy; rw [if_pos hp, if_pos hs, if_pos k]
    have e : tTy a p s = th 3 a := by
      unfold tTy
      rw [if_neg (by rw [k2]; decide), k2]
    rw [k2] at c1
    refine ⟨h1, _, _, onx (jPL j) (asx_type (jPL j) c1), c2, Or.inl ⟨rfl, ?_⟩⟩
    rw [e]
    exact j.2.1.2.1.1 p hp.1 hp.2 k
  · have k0 := kTy_0.mpr ⟨hp, hs, k, (by omega : ¬ a 2 284 (cuL a p) = 80)⟩
    have e : tTy a p s = tT1 a p s := if_pos k0
    rw [if_pos k0] at c1
    have cu := cu_in g hp
    obtain ⟨x1, V1, P1, H1, q1, q2, q3⟩ := ty_in z.1 z.2.1 hn.1 k0
    have iv : mInv (tT0 a p s) p (cuL a p) = mInv a p (cuL a p) := by
      have ee : ∀ r i, r = 301 ∨ r = 302 ∨ r = 303 ∨ r = 304 → tT0 a p s 2 r i = a 2 r i := fun r i hr => cm_o (a := th 0 a) (by omega)
      unfold mInv
      rw [ee 301 _ (Or.inl rfl)]
      congr 1
      funext i
      rw [ee 302 _ (by decide), ee 303 _ (by decide), ee 304 _ (by decide)]
    have qq : isQ (tT0 a p s) p (cuL a p, cuX a p + 1) := ⟨P1.1, P1.2, by
      show ¬ mInv (tT0 a p s) p (cuL a p)
      rw [iv]; exact cu.2.2.1⟩
    have y1 : eqA (tT0 a p s) (tP1 (tT0 a p s) p (cuL a p) (cuX a p + 1)) := eqB_A eqB_P1
    have y2 : eqA (tP1 (tT0 a p s) p (cuL a p) (cuX a p + 1)) (tLk (tP1 (tT0 a p s) p (cuL a p) (cuX a p + 1)) p) := eqA_lk
    have s0 := cu_set (b := tP1 (tT0 a p s) p (cuL a p) (cuX a p + 1)) x1.1 hp qq P1_c.1 P1_c.2 y1
    have s1 := cuL_eq (p := p) y2.1 eqC_lk
    have s2 := cuX_eq (p := p) y2.1 eqC_lk
    refine ⟨h1, _, _, onv (jPL j) (asv_type (jPL j) c1), c2, Or.inr ⟨by have := cu.2.1; omega, rfl, ?_, ?_⟩⟩
    · rw [e]; exact s2.trans s0.2
    · rw [e]; exact s1.trans s0.1
end OC2
