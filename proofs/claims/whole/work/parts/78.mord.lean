section MOR
variable {h : vH} {a t : Int}
theorem M_turns (sM : shModel h) (h0 : 0 ≤ a) (h131 : t ≤ 131) {x1 x2 : Int} : ∀ (f : Nat) (sc : Int → Int) (x y : Int) (h1 : vH) (v5 : vv), a ≤ x → y < t → y ≤ x + f → mF [319] [] h h1 → (∀ j, h1 2 319 j = sc j) → ∃ h2, vrun mX13_turns 7 [(1, 282), (0, x1), (0, x2), (0, x), (0, y), v5] [] h1 = some (.inl none, h2) ∧ mF [319] [] h h2 ∧ (∀ j, h2 2 319 j = trn f sc x y j) := by
  intro f
  induction f with
  | zero =>
    intro sc x y h1 v5 hx hy hf hF hs
    refine ⟨h1, ?_, hF, hs⟩
    rw [rX13_turns_7 (shModel_sx (mF_sx hF (by decide)) sM), if_pos (by omega)]
    all_goals (first | (intros; omega) | assumption)
  | succ f ih =>
    intro sc x y h1 v5 hx hy hf hF hs
    have sM1 := shModel_sx (mF_sx hF (by decide)) sM
    by_cases c : y ≤ x
    · refine ⟨h1, ?_, hF, fun j => ?_⟩
      · rw [rX13_turns_7 sM1, if_pos c]
        all_goals (first | (intros; omega) | assumption)
      · unfold trn
        rw [if_pos c]
        exact hs j
    · obtain ⟨h2, q1, q2, q3⟩ := ih (fun j => if j = y then sc x else if j = x then sc y else sc j) (x + 1) (y - 1) (vup (vup h1 2 319 x (sc y)) 2 319 y (sc x)) (0, sc x) (by omega) (by omega) (by omega) (mF_up (mF_up hF (Or.inl ⟨rfl, by decide⟩)) (Or.inl ⟨rfl, by decide⟩)) (fun j => by rw [vup_2, vup_2, hs])
      refine ⟨h2, ?_, q2, fun j => ?_⟩
      · rw [rX13_turns_7 sM1, if_neg c, hs, hs, ← q1]
        · rw [show y + -1 = y - 1 by omega]
        all_goals (first | (intros; omega) | assumption)
      · rw [q3]
        show _ = (if y ≤ x then sc else trn f _ (x + 1) (y - 1)) j
        rw [if_neg c]
theorem M_turn (sM : shModel h) (h0 : 0 ≤ a) (h131 : t ≤ 131) {sc : Int → Int} {x y : Int} (hx : a ≤ x) (hy : y ≤ t) (hxy : x ≤ y) (h140 : y ≤ x + 140) (hs : ∀ j, h 2 319 j = sc j) : ∃ h2, vcl mX13_turns [(1, 282), (0, x), (0, y)] h = some (.inl none, h2) ∧ mF [319] [] h h2 ∧ (∀ j, h2 2 319 j = trn 140 sc x (y - 1) j) := by
  obtain ⟨h2, q1, q2, q3⟩ := M_turns (x1 := x) (x2 := y) sM h0 h131 140 sc x (y - 1) h (9, 0) hx (by omega) (by omega) mF_rf hs
  exact ⟨h2, (rX13_turns_0 (by omega) (by omega)).trans q1, q2, q3⟩
variable {n : Nat} {s lv wi : Int → Int} {base c0 : Int} {p : Int} {r : Int}
/-- a pass: the runs of one level -/
theorem M_pass (sM : shModel h) (h0 : 0 ≤ a) (hat : a ≤ t) (h131 : t ≤ 131) (hl : ∀ j, a ≤ j → j < t → h 2 316 j = lv j) {l x5 : Int} (hl0 : 0 < l) (hl9 : l ≤ 1000) : ∀ (f : Nat) (sc : Int → Int) (k : Int) (h1 : vH) (v8 : vv), a ≤ k → t ≤ k + f → mF [319] [] h h1 → (∀ j, h1 2 319 j = sc j) → isO a t sc → ∃ h2 y v9, vrun mX13_orders 109 [(1, 282), (0, p), (0, r), (0, a), (0, t), (0, x5), (0, l), (0, k), v8] [] h1 = vrun mX13_orders 101 [(1, 282), (0, p), (0, r), (0, a), (0, t), (0, x5), (0, l - 1), (0, y), v9] [] h2 ∧ mF [319] [] h h2 ∧ (∀ j, h2 2 319 j = psR lv l t f sc k j) := by
  intro f
  induction f with
  | zero =>
    intro sc k h1 v8 hk hf hF hs hO
    refine ⟨h1, k, v8, ?_, hF, hs⟩
    rw [rX13_orders_109, if_pos (by omega)]
    · rw [show l + -1 = l - 1 by omega]
    all_goals (first | (intros; omega) | assumption)
  | succ f ih =>
    intro sc k h1 v8 hk hf hF hs hO
    have sM1 := shModel_sx (mF_sx hF (by decide)) sM
    have hd : psR lv l t (f + 1) sc k = if t ≤ k then sc else psR lv l t f (trn 140 sc k (enR lv sc l t 140 k - 1)) (enR lv sc l t 140 k + 1) := rfl
    by_cases c : t ≤ k
    · refine ⟨h1, k, v8, ?_, hF, by rw [hd, if_pos c]; exact hs⟩
      rw [rX13_orders_109, if_pos c]
      · rw [show l + -1 = l - 1 by omega]
      all_goals (first | (intros; omega) | assumption)
    · have fnd : ∀ (g : Nat) (e : Int), k ≤ e → e ≤ t → t ≤ e + g → vrun mX13_orders 120 [(1, 282), (0, p), (0, r), (0, a), (0, t), (0, x5), (0, l), (0, k), (0, e)] [] h1 = vret vrun mX13_orders 155 [(1, 282), (0, p), (0, r), (0, a), (0, t), (0, x5), (0, l), (0, k), (0, enR lv sc l t g e)] [] (vcl mX13_turns [(1, 282), (0, k), (0, enR lv sc l t g e)] h1) := by
        intro g
        induction g with
        | zero =>
          intro e h1 h2 h3
          rw [rX13_orders_120 sM1, if_pos (by omega)]
          · rfl
          all_goals (first | (intros; omega) | assumption)
        | succ g ihg =>
          intro e he1 he2 he3
          by_cases c1 : t ≤ e
          · have z : enR lv sc l t (g + 1) e = e := if_pos c1
            rw [rX13_orders_120 sM1, if_pos c1, z]
            all_goals (first | (intros; omega) | assumption)
          · have o1 := hO.1 e (by omega) (by omega)
            have e1 : h1 2 316 (sc e) = lv (sc e) := (hF _ _ _ (by simp) (by simp)).trans (hl _ o1.1 o1.2)
            have z0 : enR lv sc l t (g + 1) e = if t ≤ e then e else if lv (sc e) < l then e else enR lv sc l t g (e + 1) := rfl
            rw [if_neg c1] at z0
            rw [rX13_orders_120 sM1, if_neg c1, hs, e1, z0]
            · by_cases c2 : lv (sc e) < l
              · rw [if_pos c2, if_pos c2]
              · rw [if_neg c2, if_neg c2]
                exact ihg (e + 1) (by omega) (by omega) (by omega)
            all_goals (try rw [hs])
            all_goals (first | (intros; omega) | assumption)
      have en := enR_in (lv := lv) (sc := sc) (l := l) (t := t) 140 k
      obtain ⟨h2, b1, b2, b3⟩ := M_turn sM1 h0 h131 (sc := sc) (x := k) (y := enR lv sc l t 140 k) hk (by omega) (by omega) (by omega) hs
      obtain ⟨h3, y, v9, q1, q2, q3⟩ := ih (trn 140 sc k (enR lv sc l t 140 k - 1)) (enR lv sc l t 140 k + 1) h2 (0, enR lv sc l t 140 k) (by omega) (by omega) (mF_tr hF b2) b3 (trn_isO 140 sc k _ hk (by omega) hO)
      refine ⟨h3, y, v9, ?_, q2, by rw [hd, if_neg c]; exact q3⟩
      rw [rX13_orders_109, if_neg c, fnd 140 k (Int.le_refl _) (by omega) (by omega)]
      · refine (vret_n b1).trans ((rX13_orders_158 (by omega) (by omega)).trans ?_)
        exact q1
      all_goals (first | (intros; omega) | assumption)
/-- the passes from the highest level down -/
theorem M_passes (sM : shModel h) (h0 : 0 ≤ a) (hat : a ≤ t) (h131 : t ≤ 131) (hl : ∀ j, a ≤ j → j < t → h 2 316 j = lv j) (hp : 0 ≤ p ∧ p < 4) {x5 : Int} : ∀ (l : Nat) (sc : Int → Int) (h1 : vH) (v7 v8 : vv), l ≤ 1000 → mF [319] [] h h1 → (∀ j, h1 2 319 j = sc j) → isO a t sc → ∃ h2 v9 x6, vrun mX13_orders 101 [(1, 282), (0, p), (0, r), (0, a), (0, t), (0, x5), (0, l), v7, v8] [] h1 = vrun mX13_orders 192 [(1, 282), (0, p), (0, r), (0, a), (0, t), (0, x5), (0, x6), (0, a), v9] [] h2 ∧ x6 = (if r = 0 then 0 else h 2 287 p) ∧ mF [319] [] h h2 ∧ (∀ j, h2 2 319 j = orR lv a t l sc j) := by
  intro l
  induction l with
  | zero =>
    intro sc h1 v7 v8 hl9 hF hs hO
    refine ⟨h1, v8, _, ?_, rfl, hF, hs⟩
    rw [rX13_orders_101 (shModel_sx (mF_sx hF (by decide)) sM), if_pos (by omega), hF 2 287 p (by simp) (by simp)]
    all_goals (first | (intros; omega) | assumption)
  | succ l ih =>
    intro sc h1 v7 v8 hl9 hF hs hO
    have sM1 := shModel_sx (mF_sx hF (by decide)) sM
    obtain ⟨h2, y, v9, b1, b2, b3⟩ := M_pass (p := p) (r := r) (x5 := x5) (l := (l : Int) + 1) (lv := lv) sM h0 hat h131 hl (by omega) (by omega) 140 sc a h1 v8 (Int.le_refl _) (by omega) hF hs hO
    obtain ⟨h3, v10, x6, q1, q2, q3, q4⟩ := ih (psR lv ((l : Int) + 1) t 140 sc a) h2 (0, y) v9 (by omega) b2 b3 (psR_isO 140 sc a (Int.le_refl _) hO)
    refine ⟨h3, v10, x6, ?_, q2, q3, q4⟩
    rw [rX13_orders_101 sM1, if_neg (by omega)]
    · refine Eq.trans ?_ (b1.trans ?_)
      · rfl
      · rw [show (l : Int) + 1 - 1 = (l : Int) by omega]
        exact q1
    all_goals (first | (intros; omega) | assumption)
end MOR
