/-! draw: the reference's call -/
noncomputable def tDr (a : vH) (p t : Int) : vH := vup (kpR a p t (a 2 310 p) (a 2 310 p) 0) 2 330 p (bdS a p t 23).1
section DR3
variable {h h1 h2 a b : vH} {p t l x r k c K J n : Int}
theorem kpR_0 : kpR a p t 0 0 0 = vup a 2 329 p (a 2 310 p) := by
  funext k r i
  unfold kpR vup
  by_cases z : k = 2 ∧ r = 329 ∧ i = p
  · rw [if_pos z, if_pos z]
  · rw [if_neg z, if_neg z, if_neg (by omega), if_neg (by omega), if_neg (by omega)]
theorem kpR_set (hK : 0 ≤ K) : vup (vup (kpR a p t K K 0) 2 327 (24 * p + K) (dN a p t K)) 2 328 (24 * p + K) (dM a p t K) = kpR a p t K (K + 1) 0 := by
  funext k r i
  unfold vup
  by_cases z : k = 2 ∧ r = 328 ∧ i = 24 * p + K
  · rw [if_pos z]
    unfold kpR
    rw [if_neg (by omega), if_neg (by omega), if_pos (by omega), z.2.2, show 24 * p + K - 24 * p = K by omega]
  · rw [if_neg z]
    by_cases y : k = 2 ∧ r = 327 ∧ i = 24 * p + K
    · rw [if_pos y]
      unfold kpR
      rw [if_neg (by omega), if_pos (by omega), y.2.2, show 24 * p + K - 24 * p = K by omega]
    · rw [if_neg y]
      unfold kpR
      by_cases c1 : k = 2 ∧ r = 329 ∧ i = p
      · rw [if_pos c1, if_pos c1]
      · rw [if_neg c1, if_neg c1]
        by_cases c2 : k = 2 ∧ r = 327 ∧ 24 * p ≤ i ∧ i < 24 * p + K
        · rw [if_pos c2, if_pos (by omega)]
        · rw [if_neg c2, if_neg (show ¬ (k = 2 ∧ r = 327 ∧ 24 * p ≤ i ∧ i < 24 * p + (K + 1)) by omega)]
          by_cases c3 : k = 2 ∧ r = 328 ∧ 24 * p ≤ i ∧ i < 24 * p + K
          · rw [if_pos c3, if_pos (by omega)]
          · rw [if_neg c3, if_neg (show ¬ (k = 2 ∧ r = 328 ∧ 24 * p ≤ i ∧ i < 24 * p + (K + 1)) by omega)]
theorem kpR_cell (hc : 0 ≤ c ∧ c < 132) (hK : 0 ≤ K) : vup (kpR a p t K J c) 2 326 (132 * (24 * p + K) + c) (pkV a p (t + K) c) = kpR a p t K J (c + 1) := by
  funext k r i
  unfold vup kpR
  by_cases z : k = 2 ∧ r = 326 ∧ i = 132 * (24 * p + K) + c
  · have q : (i - 3168 * p) / 132 = K ∧ (i - 3168 * p) % 132 = c := by omega
    rw [if_pos z, if_neg (by omega), if_neg (by omega), if_neg (by omega), if_pos ⟨z.1, z.2.1, by omega, Or.inr ⟨q.1, by omega⟩⟩, q.1, q.2]
  · rw [if_neg z]
    by_cases c1 : k = 2 ∧ r = 329 ∧ i = p
    · rw [if_pos c1, if_pos c1]
    · rw [if_neg c1, if_neg c1]
      by_cases c2 : k = 2 ∧ r = 327 ∧ 24 * p ≤ i ∧ i < 24 * p + J
      · rw [if_pos c2, if_pos c2]
      · rw [if_neg c2, if_neg c2]
        by_cases c3 : k = 2 ∧ r = 328 ∧ 24 * p ≤ i ∧ i < 24 * p + J
        · rw [if_pos c3, if_pos c3]
        · rw [if_neg c3, if_neg c3]
          by_cases c4 : k = 2 ∧ r = 326 ∧ 3168 * p ≤ i ∧ ((i - 3168 * p) / 132 < K ∧ (i - 3168 * p) % 132 < dN a p t ((i - 3168 * p) / 132) ∨ (i - 3168 * p) / 132 = K ∧ (i - 3168 * p) % 132 < c)
          · rw [if_pos c4, if_pos ⟨c4.1, c4.2.1, c4.2.2.1, c4.2.2.2.elim Or.inl (fun w => Or.inr ⟨w.1, by omega⟩)⟩]
          · rw [if_neg c4, if_neg (fun w => c4 ⟨w.1, w.2.1, w.2.2.1, w.2.2.2.elim Or.inl (fun u => Or.inr ⟨u.1, by omega⟩)⟩)]
theorem kpR_row (hK : 0 ≤ K) (hc : c = if dN a p t K ≤ 0 then 0 else dN a p t K) : kpR a p t K J c = kpR a p t (K + 1) J 0 := by
  funext k r i
  unfold kpR
  by_cases c1 : k = 2 ∧ r = 329 ∧ i = p
  · rw [if_pos c1, if_pos c1]
  · rw [if_neg c1, if_neg c1]
    by_cases c2 : k = 2 ∧ r = 327 ∧ 24 * p ≤ i ∧ i < 24 * p + J
    · rw [if_pos c2, if_pos c2]
    · rw [if_neg c2, if_neg c2]
      by_cases c3 : k = 2 ∧ r = 328 ∧ 24 * p ≤ i ∧ i < 24 * p + J
      · rw [if_pos c3, if_pos c3]
      · rw [if_neg c3, if_neg c3]
        have q : ((i - 3168 * p) / 132 < K ∧ (i - 3168 * p) % 132 < dN a p t ((i - 3168 * p) / 132) ∨ (i - 3168 * p) / 132 = K ∧ (i - 3168 * p) % 132 < c) ↔ ((i - 3168 * p) / 132 < K + 1 ∧ (i - 3168 * p) % 132 < dN a p t ((i - 3168 * p) / 132) ∨ (i - 3168 * p) / 132 = K + 1 ∧ (i - 3168 * p) % 132 < 0) := by
          generalize (i - 3168 * p) / 132 = j
          have m0 : 0 ≤ (i - 3168 * p) % 132 := by omega
          generalize (i - 3168 * p) % 132 = m at m0
          constructor
          · rintro (w | w)
            · exact Or.inl ⟨by omega, w.2⟩
            · refine Or.inl ⟨by omega, ?_⟩
              rw [w.1]
              have w2 := w.2
              rw [hc] at w2
              split at w2 <;> omega
          · rintro (w | w)
            · by_cases y : j = K
              · refine Or.inr ⟨y, ?_⟩
                have w2 := w.2
                rw [y] at w2
                rw [hc, if_neg (by omega)]
                exact w2
              · exact Or.inl ⟨by omega, w.2⟩
            · omega
        by_cases c4 : k = 2 ∧ r = 326 ∧ 3168 * p ≤ i ∧ ((i - 3168 * p) / 132 < K ∧ (i - 3168 * p) % 132 < dN a p t ((i - 3168 * p) / 132) ∨ (i - 3168 * p) / 132 = K ∧ (i - 3168 * p) % 132 < c)
        · rw [if_pos c4, if_pos ⟨c4.1, c4.2.1, c4.2.2.1, q.mp c4.2.2.2⟩]
        · rw [if_neg c4, if_neg (fun w => c4 ⟨w.1, w.2.1, w.2.2.1, q.mpr w.2.2.2⟩)]
theorem kpR_o {k : Nat} {i : Int} (n : ¬ (k = 2 ∧ 326 ≤ r ∧ r ≤ 329)) : kpR a p t K J c k r i = a k r i := by
  unfold kpR
  rw [if_neg (by omega), if_neg (by omega), if_neg (by omega), if_neg (fun w => n ⟨w.1, by omega, by omega⟩)]
theorem kpR_sx : sx a (kpR a p t K J c) := fun k r i z => kpR_o (fun w => (n2k z).1 w.1)
/-- a row's cells -/
theorem M_keepsRows (g : iG h) (hp : 0 ≤ p ∧ p < 4) (ht : 0 ≤ t) (hH : 0 ≤ h 2 310 p ∧ h 2 310 p ≤ 24) (F0 : mF sA2 sT2 h h1) (T0 : told h1 h p t (h 2 310 p)) : ∃ h2, vcl mX13_keepsRows [(1, 282), (0, p)] h1 = some (.inl none, h2) ∧ mF sA2 sT2 (kpR h p t (h 2 310 p) (h 2 310 p) 0) h2 ∧ h2 1500 282 0 = h1 1500 282 0 := by
  have sMh := g.1.1
  have nA : ∀ r i v : Int, 326 ≤ r → r ≤ 329 → ∀ hx : vH, told hx h p t (h 2 310 p) → told (vup hx 2 r i v) h p t (h 2 310 p) := fun r i v u w hx T => told_of (fun r' i' e => vup_r (by omega)) T
  have inner : ∀ (f : Nat) (c K : Int) (hx : vH), (0 ≤ K ∧ K < h 2 310 p) → c + f = (if dN h p t K ≤ 0 then 0 else dN h p t K) → 0 ≤ c → mF sA2 sT2 (kpR h p t K (K + 1) c) hx → told hx h p t (h 2 310 p) → ∃ hy v3, vrun mX13_keepsRows 60 [(1, 282), (0, p), (0, K), (0, c)] [] hx = vrun mX13_keepsRows 14 [(1, 282), (0, p), (0, K + 1), v3] [] hy ∧ mF sA2 sT2 (kpR h p t (K + 1) (K + 1) 0) hy ∧ told hy h p t (h 2 310 p) ∧ hy 1500 282 0 = hx 1500 282 0 := by
    intro f
    induction f with
    | zero =>
      intro c K hx hK hf h0 F T
      have sM := shModel_sx (sx_tr kpR_sx (mF_sx F (by decide))) sMh
      obtain ⟨T1, T2, T3⟩ := T K hK.1 hK.2
      have ec : c = if dN h p t K ≤ 0 then 0 else dN h p t K := by omega
      rw [kpR_row hK.1 ec] at F
      have d : dN h p t K ≤ c := by rw [ec]; split <;> omega
      exact ⟨hx, _, (rX13_keepsRows_60 sM hK.1 (by omega) (by omega) (by omega) (by omega) (by omega) (by omega) (by omega) (by omega) (by omega) (by omega) (by omega) (by omega) (by omega) (by omega) (by omega) (by omega) (by omega) (by omega)).trans (if_pos (by omega)), F, T, rfl⟩
    | succ f ih =>
      intro c K hx hK hf h0 F T
      have sM := shModel_sx (sx_tr kpR_sx (mF_sx F (by decide))) sMh
      have dn := dN_in g hp ht hK.1
      obtain ⟨T1, T2, T3⟩ := T K hK.1 hK.2
      have d : c < dN h p t K := by split at hf <;> omega
      have e0 := (rX13_keepsRows_60 (x1 := p) (x2 := K) (x3 := c) sM hK.1 (by omega) (by omega) (by omega) (by omega) (by omega) (by omega) (by omega) (by omega) (by omega) (by omega) (by omega) (by omega) (by omega) (by omega) (by omega) (by omega) (by omega) (by omega)).trans (if_neg (by omega))
      rw [T3 c h0 d] at e0
      have F2 : mF sA2 sT2 (kpR h p t K (K + 1) (c + 1)) (vup hx 2 326 (132 * (24 * p + K) + c) (pkV h p (t + K) c)) := by
        rw [← kpR_cell ⟨h0, by omega⟩ hK.1]
        exact mF_vv F
      obtain ⟨hy, v3, q1, q2, q3, q4⟩ := ih (c + 1) K _ hK (by omega) (by omega) F2 (nA _ _ _ (by decide) (by decide) _ T)
      exact ⟨hy, v3, e0.trans q1, q2, q3, q4.trans (vup_k (by decide))⟩
  have loop : ∀ (f : Nat) (K : Int) (hx : vH) (v3 : vv), K + f = h 2 310 p → 0 ≤ K → mF sA2 sT2 (kpR h p t K K 0) hx → told hx h p t (h 2 310 p) → ∃ hy, vrun mX13_keepsRows 14 [(1, 282), (0, p), (0, K), v3] [] hx = some (.inl none, hy) ∧ mF sA2 sT2 (kpR h p t (h 2 310 p) (h 2 310 p) 0) hy ∧ hy 1500 282 0 = hx 1500 282 0 := by
    intro f
    induction f with
    | zero =>
      intro K hx v3 hf h0 F T
      have sM := shModel_sx (sx_tr kpR_sx (mF_sx F (by decide))) sMh
      have eH : hx 2 310 p = h 2 310 p := (m2_r F (by decide)).trans (kpR_o (by decide))
      have ek : K = h 2 310 p := by omega
      rw [ek] at F ⊢
      exact ⟨hx, (rX13_keepsRows_14 sM hp.1 hp.2 (by omega) (by omega) (by omega) (by omega) (by omega) (by omega) (by omega) (by omega)).trans (if_pos (by omega)), F, rfl⟩
    | succ f ih =>
      intro K hx v3 hf h0 F T
      have sM := shModel_sx (sx_tr kpR_sx (mF_sx F (by decide))) sMh
      have eH : hx 2 310 p = h 2 310 p := (m2_r F (by decide)).trans (kpR_o (by decide))
      obtain ⟨T1, T2, T3⟩ := T K h0 (by omega)
      have e0 := (rX13_keepsRows_14 (x1 := p) (x2 := K) (v3 := v3) sM hp.1 hp.2 (by omega) (by omega) (by omega) (by omega) (by omega) (by omega) (by omega) (by omega)).trans (if_neg (by omega))
      rw [T1, T2] at e0
      have F2 : mF sA2 sT2 (kpR h p t K (K + 1) 0) (vup (vup hx 2 327 (24 * p + K) (dN h p t K)) 2 328 (24 * p + K) (dM h p t K)) := by
        rw [← kpR_set h0]
        exact mF_vv (mF_vv F)
      obtain ⟨hy, w3, q1, q2, q3, q4⟩ := inner (if dN h p t K ≤ 0 then 0 else dN h p t K).toNat 0 K _ ⟨h0, by omega⟩ (by split <;> omega) (Int.le_refl _) F2 (nA _ _ _ (by decide) (by decide) _ (nA _ _ _ (by decide) (by decide) _ T))
      obtain ⟨hz, t1, t2, t3⟩ := ih (K + 1) hy w3 (by omega) (by omega) q2 q3
      exact ⟨hz, e0.trans (q1.trans t1), t2, t3.trans (q4.trans ((vup_k (by decide)).trans (vup_k (by decide))))⟩
  have sM1 := shModel_sx (mF_sx F0 (by decide)) sMh
  have eH : h1 2 310 p = h 2 310 p := m2_r F0 (by decide)
  have F1 : mF sA2 sT2 (kpR h p t 0 0 0) (vup h1 2 329 p (h 2 310 p)) := by
    rw [kpR_0]
    exact mF_vv F0
  obtain ⟨hy, q1, q2, q3⟩ := loop (h 2 310 p).toNat 0 _ (9, 0) (by omega) (Int.le_refl _) F1 (nA _ _ _ (by decide) (by decide) _ T0)
  have e0 := rX13_keepsRows_0 (x1 := p) sM1 hp.1 hp.2
  rw [eH] at e0
  exact ⟨hy, (show _ = _ from e0).trans q1, q2, q3.trans (vup_k (by decide))⟩
end DR3
