section COR
variable {h : vH} {y a t : Int}
theorem C_turns (sL : shLayout h y) (h0 : 0 ≤ a) (h131 : t ≤ 131) {x1 x2 : Int} : ∀ (f : Nat) (sc : Int → Int) (x z : Int) (h1 : vH) (v5 : vv), a ≤ x → z < t → z ≤ x + f → yF y 8 8 1 0 h h1 → (∀ j, h1 2 (y + 8) j = sc j) → ∃ h2, vrun mX3_turnRound 7 [(1, y), (0, x1), (0, x2), (0, x), (0, z), v5] [] h1 = some (.inl none, h2) ∧ yF y 8 8 1 0 h h2 ∧ (∀ j, h2 2 (y + 8) j = trn f sc x z j) := by
  intro f
  induction f with
  | zero =>
    intro sc x z h1 v5 hx hy hf hF hs
    refine ⟨h1, ?_, hF, hs⟩
    rw [rX3_turnRound_7 (shLayout_sx (yF_0 hF) sL), if_neg (by omega), if_pos (by omega)]
    all_goals (first | (intros; omega) | assumption)
  | succ f ih =>
    intro sc x z h1 v5 hx hy hf hF hs
    have sL1 := shLayout_sx (yF_0 hF) sL
    by_cases c : z ≤ x
    · refine ⟨h1, ?_, hF, fun j => ?_⟩
      · rw [rX3_turnRound_7 sL1, if_neg (by omega), if_pos c]
        all_goals (first | (intros; omega) | assumption)
      · unfold trn
        rw [if_pos c]
        exact hs j
    · obtain ⟨h2, q1, q2, q3⟩ := ih (fun j => if j = z then sc x else if j = x then sc z else sc j) (x + 1) (z - 1) (vup (vup h1 2 (y + 8) x (sc z)) 2 (y + 8) z (sc x)) (0, sc x) (by omega) (by omega) (by omega) (yF_up (yF_up hF (Or.inl ⟨rfl, by omega, by omega⟩)) (Or.inl ⟨rfl, by omega, by omega⟩)) (fun j => by rw [vup_2, vup_2, hs])
      refine ⟨h2, ?_, q2, fun j => ?_⟩
      · rw [rX3_turnRound_7 sL1, if_neg (by omega), if_neg c, if_neg (by omega), hs, hs, ← q1]
        · rw [show z + -1 = z - 1 by omega]
        all_goals (first | (intros; omega) | assumption)
      · rw [q3]
        show _ = (if z ≤ x then sc else trn f _ (x + 1) (z - 1)) j
        rw [if_neg c]
theorem C_turn (sL : shLayout h y) (h0 : 0 ≤ a) (h131 : t ≤ 131) {sc : Int → Int} {x z : Int} (hx : a ≤ x) (hy : z ≤ t) (hxy : x ≤ z) (h140 : z ≤ x + 140) (hs : ∀ j, h 2 (y + 8) j = sc j) : ∃ h2, vcl mX3_turnRound [(1, y), (0, x), (0, z)] h = some (.inl none, h2) ∧ yF y 8 8 1 0 h h2 ∧ (∀ j, h2 2 (y + 8) j = trn 140 sc x (z - 1) j) := by
  obtain ⟨h2, q1, q2, q3⟩ := C_turns (x1 := x) (x2 := z) sL h0 h131 140 sc x (z - 1) h (9, 0) hx (by omega) (by omega) yF_rf hs
  exact ⟨h2, (rX3_turnRound_0 (by omega) (by omega)).trans q1, q2, q3⟩
variable {n : Nat} {s lv wi : Int → Int} {base : Int}
theorem C_lvS {h : vH} {e v : Int} (e0 : 0 ≤ e ∧ e < 131) (hs : h 2 (y + 8) e = v) (v0 : 0 ≤ v ∧ v < 131) : fX3_levelOnScreen h y e = h 2 (y + 7) v := by
  have q : (if e < 0 then (-1 : Int) else (if 131 ≤ e then (-1) else h 2 (y + 8) e)) = v := by rw [if_neg (by omega), if_neg (by omega), hs]
  unfold fX3_levelOnScreen
  rw [q, if_neg (by omega), if_neg (by omega)]
theorem C_pass (sL : shLayout h y) (h0 : 0 ≤ a) (hat : a ≤ t) (h131 : t ≤ 131) (hl : ∀ j, a ≤ j → j < t → h 2 (y + 7) j = lv j) {l x3 : Int} (hl0 : 0 < l) (hl9 : l ≤ 1000) : ∀ (f : Nat) (sc : Int → Int) (k : Int) (h1 : vH) (v6 : vv), a ≤ k → t ≤ k + f → yF y 8 8 1 0 h h1 → (∀ j, h1 2 (y + 8) j = sc j) → isO a t sc → ∃ h2 z v7, vrun mX3_orderRow 61 [(1, y), (0, a), (0, t), (0, x3), (0, l), (0, k), v6] [] h1 = vrun mX3_orderRow 53 [(1, y), (0, a), (0, t), (0, x3), (0, l - 1), (0, z), v7] [] h2 ∧ yF y 8 8 1 0 h h2 ∧ (∀ j, h2 2 (y + 8) j = psR lv l t f sc k j) := by
  intro f
  induction f with
  | zero =>
    intro sc k h1 v6 hk hf hF hs hO
    refine ⟨h1, k, v6, ?_, hF, hs⟩
    rw [rX3_orderRow_61, if_pos (by omega)]
    · rw [show l + -1 = l - 1 by omega]
    all_goals (first | (intros; omega) | assumption)
  | succ f ih =>
    intro sc k h1 v6 hk hf hF hs hO
    have sL1 := shLayout_sx (yF_0 hF) sL
    have hd : psR lv l t (f + 1) sc k = if t ≤ k then sc else psR lv l t f (trn 140 sc k (enR lv sc l t 140 k - 1)) (enR lv sc l t 140 k + 1) := rfl
    by_cases c : t ≤ k
    · refine ⟨h1, k, v6, ?_, hF, by rw [hd, if_pos c]; exact hs⟩
      rw [rX3_orderRow_61, if_pos c]
      · rw [show l + -1 = l - 1 by omega]
      all_goals (first | (intros; omega) | assumption)
    · have fnd : ∀ (g : Nat) (e : Int), k ≤ e → e ≤ t → t ≤ e + g → vrun mX3_orderRow 71 [(1, y), (0, a), (0, t), (0, x3), (0, l), (0, k), (0, e)] [] h1 = vret vrun mX3_orderRow 99 [(1, y), (0, a), (0, t), (0, x3), (0, l), (0, k), (0, enR lv sc l t g e)] [] (vcl mX3_turnRound [(1, y), (0, k), (0, enR lv sc l t g e)] h1) := by
        intro g
        induction g with
        | zero =>
          intro e he1 he2 he3
          rw [rX3_orderRow_71 sL1, if_pos (by omega)]
          · rfl
          all_goals (first | (intros; omega) | assumption)
        | succ g ihg =>
          intro e he1 he2 he3
          by_cases c1 : t ≤ e
          · have z : enR lv sc l t (g + 1) e = e := if_pos c1
            rw [rX3_orderRow_71 sL1, if_pos c1, z]
            all_goals (first | (intros; omega) | assumption)
          · have o1 := hO.1 e (by omega) (by omega)
            have e1 : fX3_levelOnScreen h1 y e = lv (sc e) := (C_lvS ⟨by omega, by omega⟩ (hs e) ⟨by omega, by omega⟩).trans ((hF _ _ _ (by omega)).trans (hl _ o1.1 o1.2))
            have z0 : enR lv sc l t (g + 1) e = if t ≤ e then e else if lv (sc e) < l then e else enR lv sc l t g (e + 1) := rfl
            rw [if_neg c1] at z0
            rw [rX3_orderRow_71 sL1, if_neg c1, e1, z0]
            · by_cases c2 : lv (sc e) < l
              · rw [if_pos c2, if_pos c2]
              · rw [if_neg c2, if_neg c2]
                exact ihg (e + 1) (by omega) (by omega) (by omega)
            all_goals (first | (intros; omega) | assumption)
      have en := enR_in (lv := lv) (sc := sc) (l := l) (t := t) 140 k
      obtain ⟨h2, b1, b2, b3⟩ := C_turn sL1 h0 h131 (sc := sc) (x := k) (z := enR lv sc l t 140 k) hk (by omega) (by omega) (by omega) hs
      obtain ⟨h3, z, v9, q1, q2, q3⟩ := ih (trn 140 sc k (enR lv sc l t 140 k - 1)) (enR lv sc l t 140 k + 1) h2 (0, enR lv sc l t 140 k) (by omega) (by omega) (yF_tr hF b2) b3 (trn_isO 140 sc k _ hk (by omega) hO)
      refine ⟨h3, z, v9, ?_, q2, by rw [hd, if_neg c]; exact q3⟩
      rw [rX3_orderRow_61, if_neg c, fnd 140 k (Int.le_refl _) (by omega) (by omega)]
      · refine (vret_n b1).trans ((rX3_orderRow_102 (by omega) (by omega)).trans ?_)
        exact q1
      all_goals (first | (intros; omega) | assumption)
theorem C_passes (sL : shLayout h y) (h0 : 0 ≤ a) (hat : a ≤ t) (h131 : t ≤ 131) (hl : ∀ j, a ≤ j → j < t → h 2 (y + 7) j = lv j) {x3 : Int} : ∀ (l : Nat) (sc : Int → Int) (h1 : vH) (v5 v6 : vv), l ≤ 1000 → yF y 8 8 1 0 h h1 → (∀ j, h1 2 (y + 8) j = sc j) → isO a t sc → ∃ h2, vrun mX3_orderRow 53 [(1, y), (0, a), (0, t), (0, x3), (0, l), v5, v6] [] h1 = some (.inl none, h2) ∧ yF y 8 8 1 0 h h2 ∧ (∀ j, h2 2 (y + 8) j = orR lv a t l sc j) := by
  intro l
  induction l with
  | zero =>
    intro sc h1 v5 v6 hl9 hF hs hO
    refine ⟨h1, ?_, hF, hs⟩
    rw [rX3_orderRow_53, if_pos (by omega)]
  | succ l ih =>
    intro sc h1 v5 v6 hl9 hF hs hO
    obtain ⟨h2, z, v9, b1, b2, b3⟩ := C_pass (x3 := x3) (l := (l : Int) + 1) (lv := lv) sL h0 hat h131 hl (by omega) (by omega) 140 sc a h1 v6 (Int.le_refl _) (by omega) hF hs hO
    obtain ⟨h3, q1, q3, q4⟩ := ih (psR lv ((l : Int) + 1) t 140 sc a) h2 (0, z) v9 (by omega) b2 b3 (psR_isO 140 sc a (Int.le_refl _) hO)
    refine ⟨h3, ?_, q3, q4⟩
    rw [rX3_orderRow_53, if_neg (by omega)]
    refine Eq.trans ?_ (b1.trans ?_)
    · rfl
    · rw [show (l : Int) + 1 - 1 = (l : Int) by omega]
      exact q1
theorem C_tail (sL : shLayout h y) (h0 : 0 ≤ a) (h131 : t ≤ 131) (hs : ∀ j, a ≤ j → j < t → h 2 (y + 1) j = s j) (hb : h 511 y 0 = base) : ∀ (f : Nat) (k : Int) (h1 : vH), a - 1 ≤ k → k < t → k < a + f → yF y 7 7 1 0 h h1 →
    ∃ h2, vrun mX3_levelEnd 4 [(1, y), (0, a), (0, t), (0, k)] [] h1 = some (.inl none, h2) ∧ yF y 7 7 1 0 h h2 ∧ (∀ j, h2 2 (y + 7) j = if tbR s a f k ≤ j ∧ j ≤ k then base else h1 2 (y + 7) j) := by
  intro f
  induction f with
  | zero =>
    intro k h1 hk hkt hf hF
    refine ⟨h1, ?_, hF, fun j => ?_⟩
    · rw [rX3_levelEnd_4 (shLayout_sx (yF_0 hF) sL), if_pos (by omega)]
    · rw [if_neg (fun z => by have := z.1; unfold tbR at this; omega)]
  | succ f ih =>
    intro k h1 hk hkt hf hF
    have sL1 := shLayout_sx (yF_0 hF) sL
    have hd : tbR s a (f + 1) k = if k < a then k + 1 else @ite _ (bl (s k)) (Classical.propDecidable _) (tbR s a f (k - 1)) (k + 1) := rfl
    by_cases c : k < a
    · refine ⟨h1, ?_, hF, fun j => ?_⟩
      · rw [rX3_levelEnd_4 sL1, if_pos c]
      · rw [hd, if_pos c, if_neg (by omega)]
    · have e1 : h1 2 (y + 1) k = s k := (hF _ _ _ (by omega)).trans (hs k (by omega) hkt)
      have eb : h1 511 y 0 = base := (hF _ _ _ (by omega)).trans hb
      rw [if_neg c] at hd
      by_cases b : bl (s k)
      · rw [if_pos b] at hd
        obtain ⟨h2, q1, q2, q3⟩ := ih (k - 1) (vup h1 2 (y + 7) k base) (by omega) (by omega) (by omega) (yF_up hF (Or.inl ⟨rfl, by omega, by omega⟩))
        have ti := tbR_in (s := s) (a := a) f (k - 1) (by omega)
        refine ⟨h2, ?_, q2, fun j => ?_⟩
        · rw [rX3_levelEnd_4 sL1, if_neg c, if_neg (by omega), if_neg (by omega), e1, if_pos (show s k = 32 ∨ s k = 9 from b), eb, ← q1, show k + -1 = k - 1 by omega]
        · rw [q3, hd, vup_2]
          by_cases z : j = k
          · rw [if_neg (by omega), if_pos z, if_pos (by omega)]
          · rw [if_neg z]
            by_cases w : tbR s a f (k - 1) ≤ j ∧ j ≤ k - 1
            · rw [if_pos w, if_pos (by omega)]
            · rw [if_neg w, if_neg (by omega)]
      · rw [if_neg b] at hd
        refine ⟨h1, ?_, hF, fun j => ?_⟩
        · rw [rX3_levelEnd_4 sL1, if_neg c, if_neg (by omega), if_neg (by omega), e1, if_neg (show ¬ (s k = 32 ∨ s k = 9) from b)]
        · rw [hd, if_neg (by omega)]
theorem C_most (sL : shLayout h y) (h0 : 0 ≤ a) (h131 : t ≤ 131) (hl : ∀ j, a ≤ j → j < t → h 2 (y + 7) j = lv j) : ∀ (f : Nat) (c x : Int) (h1 : vH), a ≤ c → c + f = t → yF y 8 8 1 0 h h1 →
    ∃ h2, vrun mX3_orderRow 9 [(1, y), (0, a), (0, t), (0, x), (0, c), (9, 0), (9, 0)] [] h1 = vrun mX3_orderRow 53 [(1, y), (0, a), (0, t), (0, mxR lv f c x), (0, mxR lv f c x), (9, 0), (9, 0)] [] h2 ∧ yF y 8 8 1 0 h h2 ∧ (∀ j, h2 2 (y + 8) j = if c ≤ j ∧ j < t then j else h1 2 (y + 8) j) := by
  intro f
  induction f with
  | zero =>
    intro c x h1 hc hf hF
    refine ⟨h1, ?_, hF, fun j => by rw [if_neg (by omega)]⟩
    rw [rX3_orderRow_9 (shLayout_sx (yF_0 hF) sL), if_pos (by omega)]
    · rfl
    all_goals (first | (intros; omega) | assumption)
  | succ f ih =>
    intro c x h1 hc hf hF
    have sL1 := shLayout_sx (yF_0 hF) sL
    have e1 : h1 2 (y + 7) c = lv c := (hF _ _ _ (by omega)).trans (hl c hc (by omega))
    obtain ⟨h2, q1, q2, q3⟩ := ih (c + 1) (if x ≤ lv c then lv c else x) (vup h1 2 (y + 8) c c) (by omega) (by omega) (yF_up hF (Or.inl ⟨rfl, by omega, by omega⟩))
    refine ⟨h2, ?_, q2, fun j => ?_⟩
    · rw [rX3_orderRow_9 sL1, if_neg (by omega), if_neg (by omega), e1, show max x (lv c) = if x ≤ lv c then lv c else x by omega, q1]
      · rfl
      all_goals (first | (intros; omega) | assumption)
    · rw [q3, vup_2]
      by_cases z : j = c
      · rw [if_neg (by omega), if_pos z, if_pos (by omega), z]
      · rw [if_neg z]
        by_cases w : c + 1 ≤ j ∧ j < t
        · rw [if_pos w, if_pos (by omega)]
        · rw [if_neg w, if_neg (by omega)]
theorem C_cols (sL : shLayout h y) (h0 : 0 ≤ a) (h131 : t ≤ 131) {sc : Int → Int} (hw : ∀ j, a ≤ j → j < t → h 2 (y + 5) j = wi j ∧ 0 ≤ wi j ∧ wi j ≤ 4) (hsc : ∀ j, a ≤ j → j < t → h 2 (y + 8) j = sc j ∧ a ≤ sc j ∧ sc j < t) {x3 : Int} : ∀ (f : Nat) (k x : Int) (g : Int → Int) (h1 : vH) (v6 : vv), a ≤ k → k + f = t → 0 ≤ x ∧ x ≤ 4 + 4 * (k - a) → yF y 6 6 1 0 h h1 → (∀ j, h1 2 (y + 6) j = g j) →
    ∃ h2, vrun mX3_placeRow 10 [(1, y), (0, a), (0, t), (0, x3), (0, x), (0, k), v6] [] h1 = some (.inl none, h2) ∧ yF y 6 6 1 0 h h2 ∧ (∀ j, h2 2 (y + 6) j = coR wi sc f k x g j) := by
  intro f
  induction f with
  | zero =>
    intro k x g h1 v6 hk hf hx hF hg
    refine ⟨h1, ?_, hF, hg⟩
    rw [rX3_placeRow_10 (shLayout_sx (yF_0 hF) sL), if_pos (by omega)]
    all_goals (first | (intros; omega) | assumption)
  | succ f ih =>
    intro k x g h1 v6 hk hf hx hF hg
    have sL1 := shLayout_sx (yF_0 hF) sL
    obtain ⟨c1, c2, c3⟩ := hsc k hk (by omega)
    obtain ⟨w1, w2, w3⟩ := hw (sc k) c2 c3
    have e1 : h1 2 (y + 8) k = sc k := (hF _ _ _ (by omega)).trans c1
    have e2 : h1 2 (y + 5) (sc k) = wi (sc k) := (hF _ _ _ (by omega)).trans w1
    obtain ⟨h2, q1, q2, q3⟩ := ih (k + 1) (x + wi (sc k)) (ipd g (sc k) x) (vup h1 2 (y + 6) (sc k) x) (0, sc k) (by omega) (by omega) (by omega) (yF_up hF (Or.inl ⟨rfl, by omega, by omega⟩)) (fun j => by rw [vup_2, hg]; rfl)
    refine ⟨h2, ?_, q2, q3⟩
    rw [rX3_placeRow_10 sL1, if_neg (by omega), if_neg (by omega), e1, e2, if_neg (show ¬ sc k < 0 by omega), if_neg (show ¬ 131 ≤ sc k by omega), if_neg (show ¬ sc k < 0 by omega), if_neg (show ¬ 131 ≤ sc k by omega), q1]
    all_goals (try rw [e1])
    all_goals (try rw [e2])
    all_goals (first | (intros; omega) | assumption)
/-- THE CLASS ORDERS A ROW -/
theorem C_row {c0 : Int} (sL : shLayout h y) (h0 : 0 ≤ a) (hat : a ≤ t) (h131 : t ≤ 131) (hs : ∀ j, a ≤ j → j < t → h 2 (y + 1) j = s j) (hb : h 511 y 0 = base) (hb01 : 0 ≤ base ∧ base ≤ 1) (hl : ∀ j, a ≤ j → j < t → h 2 (y + 7) j = lv j ∧ 0 ≤ lv j ∧ lv j ≤ 1000) (hw : ∀ j, a ≤ j → j < t → h 2 (y + 5) j = wi j ∧ 0 ≤ wi j ∧ wi j ≤ 4) (hc0 : 0 ≤ c0 ∧ c0 ≤ 4) :
    ∃ h1 h2 h3, vcl mX3_levelEnd [(1, y), (0, a), (0, t)] h = some (.inl none, h1) ∧ vcl mX3_orderRow [(1, y), (0, a), (0, t)] h1 = some (.inl none, h2) ∧ vcl mX3_placeRow [(1, y), (0, a), (0, t), (0, c0)] h2 = some (.inl none, h3) ∧ yF y 6 8 1 0 h h1 ∧ yF y 6 8 1 0 h h2 ∧ yF y 6 8 1 0 h h3 ∧ (∀ j, a ≤ j → j < t → h3 2 (y + 7) j = oLv s lv base a t j ∧ h3 2 (y + 8) j = oSc s lv base a t j ∧ h3 2 (y + 6) j = oCo s lv wi base a t c0 j) ∧ (∀ j, (j < a ∨ t ≤ j) → h3 2 (y + 7) j = h 2 (y + 7) j ∧ h3 2 (y + 8) j = h 2 (y + 8) j ∧ h3 2 (y + 6) j = h 2 (y + 6) j) := by
  obtain ⟨h1, a1, a2, a3⟩ := C_tail (s := s) sL h0 h131 hs hb 140 (t - 1) h (by omega) (by omega) (by omega) yF_rf
  have l1 : ∀ j, a ≤ j → j < t → h1 2 (y + 7) j = oLv s lv base a t j := by
    intro j u v
    rw [a3]
    unfold oLv
    by_cases z : tbR s a 140 (t - 1) ≤ j ∧ j ≤ t - 1
    · rw [if_pos z, if_pos ⟨z.1, v⟩]
    · rw [if_neg z, if_neg (by omega)]
      exact (hl j u v).1
  have lin : ∀ j, a ≤ j → j < t → 0 ≤ oLv s lv base a t j ∧ oLv s lv base a t j ≤ 1000 := by
    intro j u v
    have := hl j u v
    unfold oLv
    split <;> omega
  have sL1 := shLayout_sx (yF_0 a2) sL
  obtain ⟨h2, b1, b2, b3⟩ := C_most (lv := oLv s lv base a t) sL1 h0 h131 l1 (t - a).toNat a 0 h1 (Int.le_refl _) (by omega) yF_rf
  have mx := mxR_in (lv := oLv s lv base a t) lin (t - a).toNat a 0 (Int.le_refl _) (by omega) (by omega)
  have sL2 := shLayout_sx (yF_0 b2) sL1
  have idO : isO a t (fun j => if a ≤ j ∧ j < t then j else h1 2 (y + 8) j) := ⟨fun k u v => by
    dsimp only
    rw [if_pos ⟨u, v⟩]; exact ⟨u, v⟩, fun j u v => ⟨j, u, v, if_pos ⟨u, v⟩⟩⟩
  obtain ⟨h3, c1, c3, c4⟩ := C_passes (lv := oLv s lv base a t) (x3 := mxR (oLv s lv base a t) (t - a).toNat a 0) sL2 h0 hat h131 (fun j u v => (b2 _ _ _ (by omega)).trans (l1 j u v)) (mxR (oLv s lv base a t) (t - a).toNat a 0).toNat (fun j => if a ≤ j ∧ j < t then j else h1 2 (y + 8) j) h2 (9, 0) (9, 0) (by omega) yF_rf b3 idO
  have sL3 := shLayout_sx (yF_0 c3) sL2
  have s3 : ∀ j, a ≤ j → j < t → h3 2 (y + 8) j = oSc s lv base a t j := by
    intro j u v
    rw [c4]
    exact orR_ag _ _ _ (fun i u v => if_pos ⟨u, v⟩) j u v
  have oin := oSc_isO (s := s) (lv := lv) (base := base) (a := a) (t := t)
  obtain ⟨h4, d1, d2, d3⟩ := C_cols (wi := wi) (sc := oSc s lv base a t) (x3 := c0) sL3 h0 h131 (fun j u v => ⟨(c3 _ _ _ (by omega)).trans ((b2 _ _ _ (by omega)).trans ((a2 _ _ _ (by omega)).trans (hw j u v).1)), (hw j u v).2⟩) (fun j u v => ⟨s3 j u v, oin.1 j u v⟩) (t - a).toNat a c0 (fun j => h3 2 (y + 6) j) h3 (9, 0) (Int.le_refl _) (by omega) (by omega) yF_rf (fun _ => rfl)
  have w1 : yF y 6 8 1 0 h h1 := yF_le a2 (by omega) (by omega) (by omega) (by omega)
  have w3 : yF y 6 8 1 0 h h3 := yF_tr w1 (yF_tr (yF_le b2 (by omega) (by omega) (by omega) (by omega)) (yF_le c3 (by omega) (by omega) (by omega) (by omega)))
  refine ⟨h1, h3, h4, ?_, ?_, ?_, w1, w3, yF_tr w3 (yF_le d2 (by omega) (by omega) (by omega) (by omega)), fun j u v => ⟨?_, ?_, ?_⟩, fun j u => ⟨?_, ?_, ?_⟩⟩
  · exact (rX3_levelEnd_0 (by omega) (by omega)).trans a1
  · refine rX3_orderRow_0.trans ?_
    rw [show max a 0 = a by omega]
    refine b1.trans ?_
    refine Eq.trans ?_ c1
    rw [show (((mxR (oLv s lv base a t) (t - a).toNat a 0).toNat : Nat) : Int) = mxR (oLv s lv base a t) (t - a).toNat a 0 by omega]
  · refine rX3_placeRow_0.trans ?_
    rw [show max a 0 = a by omega]
    exact d1
  · rw [d2 _ _ _ (by omega), c3 _ _ _ (by omega), b2 _ _ _ (by omega), l1 j u v]
  · rw [d2 _ _ _ (by omega), s3 j u v]
  · rw [d3]
    unfold oCo
    obtain ⟨i, i1, i2, i3⟩ := oin.2 j u v
    exact coR_eq _ _ _ _ _ (Or.inr ⟨i, i1, by omega, i3⟩)
  · rw [d2 _ _ _ (by omega), c3 _ _ _ (by omega), b2 _ _ _ (by omega), a3, if_neg (fun z => by
      have := tbR_in (s := s) (a := a) 140 (t - 1) (by omega)
      omega)]
  · rw [d2 _ _ _ (by omega), c4, orR_out _ _ j u]
    rw [if_neg (by omega), a2 _ _ _ (by omega)]
  · rw [d3, coR_out _ _ _ _ (fun i i1 i2 => by
      have := oin.1 i i1 (by omega)
      omega), c3 _ _ _ (by omega), b2 _ _ _ (by omega), a2 _ _ _ (by omega)]
end COR
section CTR
variable {h : vH} {y W d : Int} {n : Nat} {s : Int → Int} {R : Nat}
/-- where a row of the class begins -/
theorem C_startOf (hn : h 509 y 0 = (n : Int)) (hR : kRs h y s n W d R) (hd : 0 ≤ d ∧ d ≤ 4) (hW : 10 ≤ W) {j : Nat} (hj : j ≤ R) : fX3_startOf h y j = rSt s n W d j := by
  obtain ⟨r1, r2, r3, r4, r5, r6⟩ := hR
  have en := isR_end (by omega) hd hW r1
  unfold fX3_startOf
  rw [if_neg (by omega)]
  by_cases z : j = R
  · rw [if_pos (by omega), z, en, hn]
  · rw [if_neg (by omega), if_pos (by omega)]
    exact r5 j (by omega)
/-- a row as it stands on the screen -/
def kRow (h : vH) (y : Int) (s : Int → Int) (n : Nat) (W d : Int) (j : Nat) : Prop := ∀ k, rSt s n W d j ≤ k → k < rSt s n W d (j + 1) → h 2 (y + 7) k = oLv s (lL s n) (lB0 s n) (rSt s n W d j) (rSt s n W d (j + 1)) k ∧ h 2 (y + 8) k = oSc s (lL s n) (lB0 s n) (rSt s n W d j) (rSt s n W d (j + 1)) k ∧ h 2 (y + 6) k = oCo s (lL s n) (rWd s n W (rSt s n W d j) (cI d j)) (lB0 s n) (rSt s n W d j) (rSt s n W d (j + 1)) (cI d j) k
theorem kRs_yF {lo hi : Int} {h2 : vH} (x : yF y lo hi 1 0 h h2) (a : 6 ≤ lo) (b : hi ≤ 8) (r : kRs h y s n W d R) : kRs h2 y s n W d R := by
  obtain ⟨r1, r2, r3, r4, r5, r6⟩ := r
  exact ⟨r1, r2, (x _ _ _ (by omega)).trans r3, (x _ _ _ (by omega)).trans r4, fun j hj => (x _ _ _ (by omega)).trans (r5 j hj), fun j hj k u v => (x _ _ _ (by omega)).trans (r6 j hj k u v)⟩
/-- THE CLASS TURNS THE ROWS OF A LINE -/
theorem C_turnRows (sL : shLayout h y) (hn : h 509 y 0 = (n : Int)) (h131 : n ≤ 131) (hs : ∀ k : Int, 0 ≤ k → k < n → h 2 (y + 1) k = s k) (hd : 0 ≤ d ∧ d ≤ 4) (hW : 10 ≤ W) (hR : kRs h y s n W d R) (hb : h 511 y 0 = lB0 s n) (hl : ∀ j : Nat, j < n → h 2 (y + 7) j = lL s n j) : ∃ h2, vcl mX3_turnRows [(1, y)] h = some (.inl none, h2) ∧ yF y 6 8 1 0 h h2 ∧ ∀ j : Nat, j < R → kRow h2 y s n W d j := by
  have w0 := wy1_in (s := s) (n := n) (o := -1)
  have r2 := hR.2.1
  have loop : ∀ (f i : Nat) (h1 : vH) (v2 v3 : vv), i + f = R → yF y 6 8 1 0 h h1 → (∀ k, rSt s n W d i ≤ k → k < n → h1 2 (y + 7) k = h 2 (y + 7) k) → (∀ j : Nat, j < i → kRow h1 y s n W d j) → ∃ h2, vrun mX3_turnRows 2 [(1, y), (0, i), v2, v3] [] h1 = some (.inl none, h2) ∧ yF y 6 8 1 0 h h2 ∧ ∀ j : Nat, j < R → kRow h2 y s n W d j := by
    intro f
    induction f with
    | zero =>
      intro i h1 v2 v3 hi hF hk hm
      have e1 : h1 510 y 0 = (R : Int) := (hF _ _ _ (by omega)).trans hR.2.2.1
      refine ⟨h1, ?_, hF, fun j hj => hm j (by omega)⟩
      rw [rX3_turnRows_2 (shLayout_sx (yF_0 hF) sL), if_pos (by omega)]
      all_goals (first | (intros; omega) | assumption)
    | succ f ih =>
      intro i h1 v2 v3 hi hF hk hm
      have sL1 := shLayout_sx (yF_0 hF) sL
      have e1 : h1 510 y 0 = (R : Int) := (hF _ _ _ (by omega)).trans hR.2.2.1
      have n1 : h1 509 y 0 = (n : Int) := (hF _ _ _ (by omega)).trans hn
      have R1 := kRs_yF hF (by omega) (by omega) hR
      have p0 := rSt_in (s := s) (n := n) (W := W) (d := d) (by omega) hd hW i
      have p1 := rSt_in (s := s) (n := n) (W := W) (d := d) (by omega) hd hW (i + 1)
      have up := rSt_up (s := s) (n := n) hd hW i
      have st0 := C_startOf n1 R1 hd hW (j := i) (by omega)
      have st1 := C_startOf n1 R1 hd hW (j := i + 1) (by omega)
      have c0 : 0 ≤ cI d i ∧ cI d i ≤ 4 := by unfold cI; split <;> omega
      obtain ⟨h2, h3, h4, a1, a2, a3, a4, a5, a6, a7, a8⟩ := C_row (s := s) (lv := lL s n) (wi := rWd s n W (rSt s n W d i) (cI d i)) (base := lB0 s n) (c0 := cI d i) sL1 p0.1 up (by omega) (fun j u v => (hF _ _ _ (by omega)).trans (hs j (by omega) (by omega))) ((hF _ _ _ (by omega)).trans hb) (by unfold lB0; omega) (fun j u v => by
        have q : ((j.toNat : Nat) : Int) = j := by omega
        have b := lL_in (s := s) (n := n) (k := j.toNat) (by omega)
        rw [q] at b
        refine ⟨?_, b.1, by omega⟩
        rw [hk j u (by omega)]
        have := hl j.toNat (by omega)
        rw [q] at this
        exact this) (fun j u v => ⟨R1.2.2.2.2.2 i (by omega) j u v, rWd_in c0.1⟩) c0
      obtain ⟨h5, q1, q2, q3⟩ := ih (i + 1) h4 (0, rSt s n W d i) (0, rSt s n W d (i + 1)) (by omega) (yF_tr hF a6) (fun k u v => by
        rw [(a8 k (Or.inr u)).1]
        exact hk k (by omega) v) (fun j hj k u v => by
        by_cases z : j = i
        · subst z; exact a7 k u v
        · have mo := rSt_mono (s := s) (n := n) hd hW (show j + 1 ≤ i by omega)
          obtain ⟨b1, b2, b3⟩ := a8 k (Or.inl (by omega))
          rw [b1, b2, b3]
          exact hm j (by omega) k u v)
      refine ⟨h5, ?_, q2, q3⟩
      have st1' : fX3_startOf h1 y ((i : Int) + 1) = rSt s n W d (i + 1) := by rw [show (i : Int) + 1 = ((i + 1 : Nat) : Int) by omega]; exact st1
      rw [rX3_turnRows_2 sL1, if_neg (by omega), st0, st1', show min (rSt s n W d (i + 1)) 131 = rSt s n W d (i + 1) by omega]
      · refine (vret_n a1).trans ?_
        refine (rX3_turnRows_36 (shLayout_sx (yF_0 a4) sL1)).trans ((vret_n a2).trans ?_)
        refine (rX3_turnRows_42 (shLayout_sx (yF_0 a5) sL1)).trans ?_
        have ci : (if (i : Int) = 0 then 0 else h3 513 y 0) = cI d i := by
          rw [a5 _ _ _ (by omega), hF _ _ _ (by omega), hR.2.2.2.1]
          unfold cI
          by_cases z : i = 0
          · rw [if_pos (by omega), if_pos z]
          · rw [if_neg (by omega), if_neg z]
        rw [ci]
        refine (vret_n a3).trans ((rX3_turnRows_53 (by omega) (by omega)).trans ?_)
        exact q1
      all_goals (first | (intros; omega) | assumption)
  obtain ⟨h2, a1, a2, a3⟩ := loop R 0 h (9, 0) (9, 0) (by omega) yF_rf (fun _ _ _ => rfl) (fun j hj => absurd hj (Nat.not_lt_zero j))
  exact ⟨h2, rX3_turnRows_0.trans a1, a2, a3⟩
end CTR

