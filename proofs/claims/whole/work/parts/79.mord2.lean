section MOQ
variable {h : vH} {a t : Int} {n : Nat} {s lv wi : Int → Int} {base : Int} {p r : Int}
theorem M_tail (sM : shModel h) (h0 : 0 ≤ a) (h131 : t ≤ 131) (hs : ∀ j, a ≤ j → j < t → h 2 311 j = s j) (hb : h 1548 282 0 = base) : ∀ (f : Nat) (k : Int) (h1 : vH), a - 1 ≤ k → k < t → k < a + f → mF [316] [] h h1 →
    ∃ h2, vrun mX13_orders 23 [(1, 282), (0, p), (0, r), (0, a), (0, t), (0, k), (9, 0), (9, 0), (9, 0)] [] h1 = vrun mX13_orders 61 [(1, 282), (0, p), (0, r), (0, a), (0, t), (0, 0), (0, a), (9, 0), (9, 0)] [] h2 ∧ mF [316] [] h h2 ∧ (∀ j, h2 2 316 j = if tbR s a f k ≤ j ∧ j ≤ k then base else h1 2 316 j) := by
  intro f
  induction f with
  | zero =>
    intro k h1 hk hkt hf hF
    have sM1 := shModel_sx (mF_sx hF (by decide)) sM
    refine ⟨h1, ?_, hF, fun j => ?_⟩
    · rw [rX13_orders_23 sM1, if_pos (by omega)]
      all_goals (first | (intros; omega) | assumption)
    · rw [if_neg (fun z => by have := z.1; unfold tbR at this; omega)]
  | succ f ih =>
    intro k h1 hk hkt hf hF
    have sM1 := shModel_sx (mF_sx hF (by decide)) sM
    have hd : tbR s a (f + 1) k = if k < a then k + 1 else @ite _ (bl (s k)) (Classical.propDecidable _) (tbR s a f (k - 1)) (k + 1) := rfl
    by_cases c : k < a
    · refine ⟨h1, ?_, hF, fun j => ?_⟩
      · rw [rX13_orders_23 sM1, if_pos c]
        all_goals (first | (intros; omega) | assumption)
      · rw [hd, if_pos c, if_neg (by omega)]
    · have e1 : h1 2 311 k = s k := (hF _ _ _ (by simp) (by simp)).trans (hs k (by omega) hkt)
      have eb : h1 1548 282 0 = base := (hF _ _ _ (by simp) (by simp)).trans hb
      rw [if_neg c] at hd
      by_cases b : bl (s k)
      · rw [if_pos b] at hd
        obtain ⟨h2, q1, q2, q3⟩ := ih (k - 1) (vup h1 2 316 k base) (by omega) (by omega) (by omega) (mF_up hF (Or.inl ⟨rfl, by decide⟩))
        have ti := tbR_in (s := s) (a := a) f (k - 1) (by omega)
        have nb : ¬ fX13_isBlank h1 k = 0 := by rw [M_blank, e1, b2i_t b]; decide
        refine ⟨h2, ?_, q2, fun j => ?_⟩
        · rw [rX13_orders_23 sM1, if_neg c, if_neg nb, eb, ← q1]
          · rw [show k + -1 = k - 1 by omega]
          all_goals (first | (intros; omega) | assumption)
        · rw [q3, hd, vup_2]
          by_cases z : j = k
          · rw [if_neg (by omega), if_pos z, if_pos (by omega)]
          · rw [if_neg z]
            by_cases y : tbR s a f (k - 1) ≤ j ∧ j ≤ k - 1
            · rw [if_pos y, if_pos (by omega)]
            · rw [if_neg y, if_neg (by omega)]
      · rw [if_neg b] at hd
        have nb : fX13_isBlank h1 k = 0 := by rw [M_blank, e1, b2i_f b]
        refine ⟨h1, ?_, hF, fun j => ?_⟩
        · rw [rX13_orders_23 sM1, if_neg c, if_pos nb]
          all_goals (first | (intros; omega) | assumption)
        · rw [hd, if_neg (by omega)]
theorem M_most (sM : shModel h) (h0 : 0 ≤ a) (h131 : t ≤ 131) (hl : ∀ j, a ≤ j → j < t → h 2 316 j = lv j) : ∀ (f : Nat) (c x : Int) (h1 : vH), a ≤ c → c + f = t → mF [319] [] h h1 →
    ∃ h2, vrun mX13_orders 61 [(1, 282), (0, p), (0, r), (0, a), (0, t), (0, x), (0, c), (9, 0), (9, 0)] [] h1 = vrun mX13_orders 101 [(1, 282), (0, p), (0, r), (0, a), (0, t), (0, mxR lv f c x), (0, mxR lv f c x), (9, 0), (9, 0)] [] h2 ∧ mF [319] [] h h2 ∧ (∀ j, h2 2 319 j = if c ≤ j ∧ j < t then j else h1 2 319 j) := by
  intro f
  induction f with
  | zero =>
    intro c x h1 hc hf hF
    have sM1 := shModel_sx (mF_sx hF (by decide)) sM
    refine ⟨h1, ?_, hF, fun j => by rw [if_neg (by omega)]⟩
    rw [rX13_orders_61 sM1, if_pos (by omega)]
    · rfl
    all_goals (first | (intros; omega) | assumption)
  | succ f ih =>
    intro c x h1 hc hf hF
    have sM1 := shModel_sx (mF_sx hF (by decide)) sM
    have e1 : h1 2 316 c = lv c := (hF _ _ _ (by simp) (by simp)).trans (hl c hc (by omega))
    obtain ⟨h2, q1, q2, q3⟩ := ih (c + 1) (if x ≤ lv c then lv c else x) (vup h1 2 319 c c) (by omega) (by omega) (mF_up hF (Or.inl ⟨rfl, by decide⟩))
    refine ⟨h2, ?_, q2, fun j => ?_⟩
    · rw [rX13_orders_61 sM1, if_neg (by omega), e1, q1]
      · rfl
      all_goals (first | (intros; omega) | assumption)
    · rw [q3, vup_2]
      by_cases z : j = c
      · rw [if_neg (by omega), if_pos z, if_pos (by omega), z]
      · rw [if_neg z]
        by_cases y : c + 1 ≤ j ∧ j < t
        · rw [if_pos y, if_pos (by omega)]
        · rw [if_neg y, if_neg (by omega)]
theorem M_cols (sM : shModel h) (h0 : 0 ≤ a) (h131 : t ≤ 131) {sc : Int → Int} (hw : ∀ j, a ≤ j → j < t → h 2 315 j = wi j ∧ 0 ≤ wi j ∧ wi j ≤ 4) (hsc : ∀ j, a ≤ j → j < t → h 2 319 j = sc j ∧ a ≤ sc j ∧ sc j < t) {x5 : Int} : ∀ (f : Nat) (k x : Int) (g : Int → Int) (h1 : vH) (v8 : vv), a ≤ k → k + f = t → 0 ≤ x ∧ x ≤ 4 + 4 * (k - a) → mF [317] [] h h1 → (∀ j, h1 2 317 j = g j) →
    ∃ h2, vrun mX13_orders 192 [(1, 282), (0, p), (0, r), (0, a), (0, t), (0, x5), (0, x), (0, k), v8] [] h1 = some (.inl none, h2) ∧ mF [317] [] h h2 ∧ (∀ j, h2 2 317 j = coR wi sc f k x g j) := by
  intro f
  induction f with
  | zero =>
    intro k x g h1 v8 hk hf hx hF hg
    refine ⟨h1, ?_, hF, hg⟩
    rw [rX13_orders_192 (shModel_sx (mF_sx hF (by decide)) sM), if_pos (by omega)]
    all_goals (first | (intros; omega) | assumption)
  | succ f ih =>
    intro k x g h1 v8 hk hf hx hF hg
    have sM1 := shModel_sx (mF_sx hF (by decide)) sM
    obtain ⟨c1, c2, c3⟩ := hsc k hk (by omega)
    obtain ⟨w1, w2, w3⟩ := hw (sc k) c2 c3
    have e1 : h1 2 319 k = sc k := (hF _ _ _ (by simp) (by simp)).trans c1
    have e2 : h1 2 315 (sc k) = wi (sc k) := (hF _ _ _ (by simp) (by simp)).trans w1
    obtain ⟨h2, q1, q2, q3⟩ := ih (k + 1) (x + wi (sc k)) (ipd g (sc k) x) (vup h1 2 317 (sc k) x) v8 (by omega) (by omega) (by omega) (mF_up hF (Or.inl ⟨rfl, by decide⟩)) (fun j => by rw [vup_2, hg]; rfl)
    refine ⟨h2, ?_, q2, q3⟩
    rw [rX13_orders_192 sM1, if_neg (by omega), e1, e2, q1]
    all_goals (try rw [e1])
    all_goals (try rw [e2])
    all_goals (first | (intros; omega) | assumption)
/-- THE REFERENCE ORDERS A ROW -/
theorem M_orders (sM : shModel h) (hp : 0 ≤ p ∧ p < 4) (hr : 0 ≤ r ∧ r ≤ 131) (ha : h 2 320 r = a) (ht : h 2 320 (r + 1) = t) (h0 : 0 ≤ a) (hat : a ≤ t) (h131 : t ≤ 131) (hs : ∀ j, a ≤ j → j < t → h 2 311 j = s j) (hb : h 1548 282 0 = base) (hb01 : 0 ≤ base ∧ base ≤ 1) (hl : ∀ j, a ≤ j → j < t → h 2 316 j = lv j ∧ 0 ≤ lv j ∧ lv j ≤ 1000) (hw : ∀ j, a ≤ j → j < t → h 2 315 j = wi j ∧ 0 ≤ wi j ∧ wi j ≤ 4) (hd : 0 ≤ h 2 287 p ∧ h 2 287 p ≤ 4) :
    ∃ h2, vcl mX13_orders [(1, 282), (0, p), (0, r)] h = some (.inl none, h2) ∧ mF [316, 319, 317] [] h h2 ∧ (∀ j, a ≤ j → j < t → h2 2 316 j = oLv s lv base a t j ∧ h2 2 319 j = oSc s lv base a t j ∧ h2 2 317 j = oCo s lv wi base a t (if r = 0 then 0 else h 2 287 p) j) ∧ (∀ j, (j < a ∨ t ≤ j) → h2 2 316 j = h 2 316 j ∧ h2 2 319 j = h 2 319 j ∧ h2 2 317 j = h 2 317 j) := by
  obtain ⟨h1, a1, a2, a3⟩ := M_tail (p := p) (r := r) (s := s) sM h0 h131 hs hb 140 (t - 1) h (by omega) (by omega) (by omega) mF_rf
  have l1 : ∀ j, a ≤ j → j < t → h1 2 316 j = oLv s lv base a t j := by
    intro j u v
    rw [a3]
    unfold oLv
    by_cases z : tbR s a 140 (t - 1) ≤ j ∧ j ≤ t - 1
    · rw [if_pos z, if_pos ⟨z.1, v⟩]
    · rw [if_neg z, if_neg (by omega)]
      exact (hl j u v).1
  have lin : ∀ j, a ≤ j → j < t → 0 ≤ oLv s lv base a t j ∧ oLv s lv base a t j ≤ 1000 := by
    intro j u v
    have := hl j u v
    unfold oLv
    split <;> omega
  have sM1 := shModel_sx (mF_sx a2 (by decide)) sM
  obtain ⟨h2, b1, b2, b3⟩ := M_most (p := p) (r := r) (lv := oLv s lv base a t) sM1 h0 h131 l1 (t - a).toNat a 0 h1 (Int.le_refl _) (by omega) mF_rf
  have mx := mxR_in (lv := oLv s lv base a t) lin (t - a).toNat a 0 (Int.le_refl _) (by omega) (by omega)
  have sM2 := shModel_sx (mF_sx b2 (by decide)) sM1
  have idO : isO a t (fun j => if a ≤ j ∧ j < t then j else h1 2 319 j) := ⟨fun k u v => by
    dsimp only
    rw [if_pos ⟨u, v⟩]; exact ⟨u, v⟩, fun j u v => ⟨j, u, v, if_pos ⟨u, v⟩⟩⟩
  obtain ⟨h3, v9, x6, c1, c2, c3, c4⟩ := M_passes (p := p) (r := r) (lv := oLv s lv base a t) (x5 := mxR (oLv s lv base a t) (t - a).toNat a 0) sM2 h0 hat h131 (fun j u v => (b2 _ _ _ (by simp) (by simp)).trans (l1 j u v)) hp (mxR (oLv s lv base a t) (t - a).toNat a 0).toNat (fun j => if a ≤ j ∧ j < t then j else h1 2 319 j) h2 (9, 0) (9, 0) (by omega) mF_rf b3 idO
  have sM3 := shModel_sx (mF_sx c3 (by decide)) sM2
  have id3 : h2 2 287 p = h 2 287 p := (b2 _ _ _ (by simp) (by simp)).trans (a2 _ _ _ (by simp) (by simp))
  rw [id3] at c2
  have s3 : ∀ j, a ≤ j → j < t → h3 2 319 j = oSc s lv base a t j := by
    intro j u v
    rw [c4]
    exact orR_ag _ _ _ (fun i u v => if_pos ⟨u, v⟩) j u v
  have oin := oSc_isO (s := s) (lv := lv) (base := base) (a := a) (t := t)
  obtain ⟨h4, d1, d2, d3⟩ := M_cols (p := p) (r := r) (wi := wi) (sc := oSc s lv base a t) (x5 := mxR (oLv s lv base a t) (t - a).toNat a 0) sM3 h0 h131 (fun j u v => ⟨(c3 _ _ _ (by simp) (by simp)).trans ((b2 _ _ _ (by simp) (by simp)).trans ((a2 _ _ _ (by simp) (by simp)).trans (hw j u v).1)), (hw j u v).2⟩) (fun j u v => ⟨s3 j u v, oin.1 j u v⟩) (t - a).toNat a x6 (fun j => h3 2 317 j) h3 v9 (Int.le_refl _) (by omega) (by rw [c2]; split <;> omega) mF_rf (fun _ => rfl)
  refine ⟨h4, ?_, ?_, fun j u v => ⟨?_, ?_, ?_⟩, fun j u => ⟨?_, ?_, ?_⟩⟩
  · have go := rX13_orders_0 (x1 := p) (x2 := r) sM hr.1 (by omega) (by omega) (by rw [ht]; omega) (by rw [ht]; omega)
    rw [ha, ht] at go
    refine Eq.trans ?_ (go.trans (a1.trans (b1.trans ?_)))
    · rfl
    · refine Eq.trans ?_ (c1.trans d1)
      rw [show (((mxR (oLv s lv base a t) (t - a).toNat a 0).toNat : Nat) : Int) = mxR (oLv s lv base a t) (t - a).toNat a 0 by omega]
  · exact mF_tr (mF_tr (mF_tr (mF_le a2 (by decide) (by decide)) (mF_le b2 (by decide) (by decide))) (mF_le c3 (by decide) (by decide))) (mF_le d2 (by decide) (by decide))
  · rw [d2 _ _ _ (by simp) (by simp), c3 _ _ _ (by simp) (by simp), b2 _ _ _ (by simp) (by simp), l1 j u v]
  · rw [d2 _ _ _ (by simp) (by simp), s3 j u v]
  · rw [d3, c2]
    unfold oCo
    obtain ⟨i, i1, i2, i3⟩ := oin.2 j u v
    exact coR_eq _ _ _ _ _ (Or.inr ⟨i, i1, by omega, i3⟩)
  · rw [d2 _ _ _ (by simp) (by simp), c3 _ _ _ (by simp) (by simp), b2 _ _ _ (by simp) (by simp), a3, if_neg (fun z => by
      have := tbR_in (s := s) (a := a) 140 (t - 1) (by omega)
      omega)]
  · rw [d2 _ _ _ (by simp) (by simp), c4, orR_out _ _ j u]
    rw [if_neg (by omega), a2 _ _ _ (by simp) (by simp)]
  · rw [d3, coR_out _ _ _ _ (fun i i1 i2 => by
      have := oin.1 i i1 (by omega)
      omega), c3 _ _ _ (by simp) (by simp), b2 _ _ _ (by simp) (by simp), a2 _ _ _ (by simp) (by simp)]
end MOQ
