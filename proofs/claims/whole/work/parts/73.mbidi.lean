theorem M_left {h : vH} {g : Int} : (¬ (fX13_isLeft h g = 0) ∨ ¬ (fX13_isRight h g = 0)) ↔ ¬ wy g = -1 := by
  unfold fX13_isLeft fX13_isRight wy
  by_cases a : (¬ (g < 110) ∧ ¬ (122 < g)) ∨ (¬ (g < 78) ∧ ¬ (90 < g))
  · rw [if_pos a, if_pos a]; simp
  · rw [if_neg a, if_neg a]
    by_cases b : (¬ (g < 97) ∧ ¬ (109 < g)) ∨ (¬ (g < 65) ∧ ¬ (77 < g))
    · rw [if_pos b, if_pos b]; simp
    · rw [if_neg b, if_neg b]; simp
theorem M_right {h : vH} {g : Int} : fX13_isRight h g = if wy g = 1 then 1 else 0 := by
  unfold fX13_isRight wy
  by_cases a : (¬ (g < 110) ∧ ¬ (122 < g)) ∨ (¬ (g < 78) ∧ ¬ (90 < g))
  · rw [if_pos a, if_pos a]; rfl
  · rw [if_neg a, if_neg a]
    by_cases b : (¬ (g < 97) ∧ ¬ (109 < g)) ∨ (¬ (g < 65) ∧ ¬ (77 < g))
    · rw [if_pos b]; rfl
    · rw [if_neg b]; rfl
theorem M_way {h : vH} {g : Int} (e : ¬ wy g = -1) : (if ¬ (fX13_isRight h g = 0) then (1 : Int) else 0) = wy g := by
  rw [M_right]
  rcases wy_in g with z | z | z
  · rw [z]; rfl
  · rw [z]; rfl
  · exact absurd z e
theorem M_clo {h : vH} {g : Int} : fX13_closing h g = clo g := rfl
section MB
variable {h : vH} {n : Nat} {s I : Int → Int} {o : Int}
theorem M_firstWay (sM : shModel h) (hn : h 1540 282 0 = (n : Int)) (h131 : n ≤ 131) (hs : ∀ k : Int, 0 ≤ k → k < n → h 2 311 k = s k) (hI : ∀ k : Int, 0 ≤ k → k < n → h 2 322 k = I k) : vcl mX13_firstWay [(1, 282), (0, o)] h = some (.inl (some (0, fW s (Ch I o n 0))), h) := by
  have loop : ∀ (f : Nat) (k : Int), k + f = n → 0 ≤ k → vrun mX13_firstWay 2 [(1, 282), (0, o), (0, k)] [] h = some (.inl (some (0, fW s (Ch I o f k))), h) := by
    intro f
    induction f with
    | zero =>
      intro k hk h0
      rw [rX13_firstWay_2 sM, if_pos (by omega)]
      · rfl
      all_goals (first | (intros; omega) | assumption)
    | succ f ih =>
      intro k hk h0
      have e1 := hs k h0 (by omega)
      have e2 := hI k h0 (by omega)
      have ih := ih (k + 1) (by omega) (by omega)
      rw [rX13_firstWay_2 sM, if_neg (by omega)]
      · by_cases c : I k = o
        · rw [if_pos (e2.trans c), Ch_yes c, e1]
          by_cases w : wy (s k) = -1
          · have nl : ¬ (¬ (fX13_isLeft h (s k) = 0) ∨ ¬ (fX13_isRight h (s k) = 0)) := fun z => M_left.mp z w
            rw [if_pos (Classical.byContradiction fun z => nl (Or.inl z)), if_pos (Classical.byContradiction fun z => nl (Or.inr z)), ih]
            show _ = some (Sum.inl (some (0, if wy (s k) = -1 then fW s (Ch I o f (k + 1)) else wy (s k))), h)
            rw [if_pos w]
          · rw [M_way w]
            show _ = some (Sum.inl (some (0, if wy (s k) = -1 then fW s (Ch I o f (k + 1)) else wy (s k))), h)
            rw [if_neg w]
            by_cases l : fX13_isLeft h (s k) = 0
            · rw [if_pos l, if_neg]
              exact fun z => (M_left (h := h) (g := s k)).mpr w |>.elim (fun y => y l) (fun y => y z)
            · rw [if_neg l]
        · rw [if_neg (by rw [e2]; exact c), Ch_no c, ih]
      all_goals (first | (intros; omega) | assumption)
  exact rX13_firstWay_0.trans (loop n 0 (by omega) (by omega))
theorem M_strong (sM : shModel h) (hn : h 1540 282 0 = (n : Int)) (h131 : n ≤ 131) (hs : ∀ k : Int, 0 ≤ k → k < n → h 2 311 k = s k) (hI : ∀ k : Int, 0 ≤ k → k < n → h 2 322 k = I k) {b : Int} : ∃ h2, vcl mX13_strong [(1, 282), (0, o), (0, b)] h = some (.inl none, h2) ∧ mF [321] [] h h2 ∧ ∀ j ∈ Ch I o n 0, h2 2 321 j = stW s b (Ch I o n 0) j := by
  have loop : ∀ (f : Nat) (k x : Int) (h1 : vH) (v5 : vv), k + f = n → 0 ≤ k → mF [321] [] h h1 → ∃ h2, vrun mX13_strong 5 [(1, 282), (0, o), (0, b), (0, x), (0, k), v5] [] h1 = some (.inl none, h2) ∧ mF [321] [] h h2 ∧ (∀ j, j < k → h2 2 321 j = h1 2 321 j) ∧ ∀ j ∈ Ch I o f k, h2 2 321 j = stW s x (Ch I o f k) j := by
    intro f
    induction f with
    | zero =>
      intro k x h1 v5 hk h0 hF
      have e0 : h1 1540 282 0 = (n : Int) := (hF _ _ _ (by simp) (by simp)).trans hn
      refine ⟨h1, ?_, hF, fun j _ => rfl, fun j hj => by cases hj⟩
      rw [rX13_strong_5 (shModel_sx (mF_sx hF (by decide)) sM), if_pos (by omega)]
      all_goals (first | (intros; omega) | assumption)
    | succ f ih =>
      intro k x h1 v5 hk h0 hF
      have sM1 := shModel_sx (mF_sx hF (by decide)) sM
      have e0 : h1 1540 282 0 = (n : Int) := (hF _ _ _ (by simp) (by simp)).trans hn
      have e1 : h1 2 311 k = s k := (hF _ _ _ (by simp) (by simp)).trans (hs k h0 (by omega))
      have e2 : h1 2 322 k = I k := (hF _ _ _ (by simp) (by simp)).trans (hI k h0 (by omega))
      by_cases c : I k = o
      · have hF2 : mF [321] [] h (vup h1 2 321 k (if wy (s k) = -1 then @ite _ (fig (s k)) (Classical.propDecidable _) x (-1) else wy (s k))) := mF_up hF (Or.inl ⟨rfl, by decide⟩)
        obtain ⟨h2, q1, q2, q3, q4⟩ := ih (k + 1) (if wy (s k) = -1 then x else wy (s k)) _ (0, if ¬ (fX13_isLeft h1 (s k) = 0) ∨ ¬ (fX13_isRight h1 (s k) = 0) then 1 else 0) (by omega) (by omega) hF2
        refine ⟨h2, ?_, q2, fun j hj => ?_, fun j hj => ?_⟩
        · rw [rX13_strong_5 sM1, if_neg (by omega), ← q1]
          · simp only [if_pos (e2.trans c), e1]
            by_cases w : wy (s k) = -1
            · have nl : ¬ (¬ (fX13_isLeft h1 (s k) = 0) ∨ ¬ (fX13_isRight h1 (s k) = 0)) := fun z => M_left.mp z w
              simp only [if_neg nl, if_pos w]
              by_cases g : fig (s k)
              · rw [if_pos g, if_pos (show ¬ (s k < 48) ∧ ¬ (57 < s k) from g)]
              · rw [if_neg g, if_neg (show ¬ (¬ (s k < 48) ∧ ¬ (57 < s k)) from g)]
            · have nl : ¬ (fX13_isLeft h1 (s k) = 0) ∨ ¬ (fX13_isRight h1 (s k) = 0) := M_left.mpr w
              simp only [if_pos nl, if_neg w, M_way w]
          all_goals (first | (intros; omega) | assumption)
        · rw [q3 j (by omega), vup_2, if_neg (by omega)]
        · rw [Ch_yes c] at hj ⊢
          unfold stW
          by_cases z : j = k
          · rw [if_pos z, z, q3 k (by omega), vup_s]
          · rw [if_neg z]
            exact q4 j ((List.mem_cons.mp hj).resolve_left z)
      · obtain ⟨h2, q1, q2, q3, q4⟩ := ih (k + 1) x h1 v5 (by omega) (by omega) hF
        refine ⟨h2, ?_, q2, fun j hj => q3 j (by omega), fun j hj => ?_⟩
        · have n2 : ¬ h1 2 322 k = o := by rw [e2]; exact c
          rw [rX13_strong_5 sM1, if_neg (by omega), ← q1]
          · simp only [if_neg n2]
          all_goals (first | (intros; omega) | assumption)
        · rw [Ch_no c] at hj ⊢
          exact q4 j hj
  obtain ⟨h2, a1, a2, a3, a4⟩ := loop n 0 b h (9, 0) (by omega) (by omega) mF_rf
  exact ⟨h2, rX13_strong_0.trans a1, a2, a4⟩
end MB
section MP
variable {h : vH} {n : Nat} {s I : Int → Int} {o : Int}
theorem M_cut (sM : shModel h) (hs : ∀ k : Int, 0 ≤ k → k < n → h 2 311 k = s k) (h131 : n ≤ 131) {k x2 : Int} (hk : 0 ≤ k ∧ k < n) : ∀ (q : List Int), q.length ≤ 131 → stA h 325 q → (∀ j ∈ q, 0 ≤ j ∧ j < n) → vrun mX13_pairs 99 [(1, 282), (0, o), (0, x2), (0, k), (0, (q.length : Int) - 1)] [] h = match cutT s (s k) q with
    | none => vrun mX13_pairs 4 [(1, 282), (0, o), (0, x2), (0, k + 1), (0, -1)] [] h
    | some (a, t) => vrun mX13_pairs 4 [(1, 282), (0, o), (0, (t.length : Int)), (0, k + 1), (0, (t.length : Int))] [] (vup (vup h 2 323 k a) 2 323 a k) := by
  intro q
  induction q with
  | nil =>
    intro hl hst hq
    rw [rX13_pairs_99 sM, if_pos (by simp), if_pos (by simp), if_pos (by simp)]
    · rfl
    all_goals (try rw [List.length_nil])
    all_goals (first | (intros; omega) | assumption)
  | cons a t ih =>
    intro hl hst hq
    have ha := hq a List.mem_cons_self
    have e1 := hs a ha.1 ha.2
    have e2 := hs k hk.1 hk.2
    have top := stA_top hst
    rw [List.length_cons] at hl
    have et : (((a :: t).length : Nat) : Int) - 1 = (t.length : Int) := by rw [List.length_cons]; omega
    have ih := ih (by omega) (stA_pop hst) (fun j hj => hq j (List.mem_cons_of_mem _ hj))
    rw [et, rX13_pairs_99 sM, if_neg (by omega), top, e1, e2, M_clo]
    · show _ = (match (if clo (s a) = s k then some (a, t) else cutT s (s k) t) with
        | none => vrun mX13_pairs 4 [(1, 282), (0, o), (0, x2), (0, k + 1), (0, -1)] [] h
        | some (a, t) => vrun mX13_pairs 4 [(1, 282), (0, o), (0, (t.length : Int)), (0, k + 1), (0, (t.length : Int))] [] (vup (vup h 2 323 k a) 2 323 a k))
      by_cases c : clo (s a) = s k
      · rw [if_pos c, if_pos c, if_neg (by omega), if_neg (by omega)]
      · rw [if_neg c, if_neg c, ← ih]
        rw [show (t.length : Int) + -1 = (t.length : Int) - 1 by omega]
    all_goals (try rw [top])
    all_goals (first | (intros; omega) | assumption)
theorem cutT_in {g : Int} : ∀ (q : List Int) (a : Int) (t : List Int), cutT s g q = some (a, t) → a ∈ q ∧ (∀ j ∈ t, j ∈ q) ∧ t.length < q.length ∧ (∀ (h : vH) (r : Int), stA h r q → stA h r t)
  | [], a, t, e => by cases e
  | b :: q, a, t, e => by
    unfold cutT at e
    split at e
    · cases e
      exact ⟨List.mem_cons_self, fun j hj => List.mem_cons_of_mem _ hj, by rw [List.length_cons]; omega, fun h r x => stA_pop x⟩
    · obtain ⟨a1, a2, a3, a4⟩ := cutT_in q a t e
      exact ⟨List.mem_cons_of_mem _ a1, fun j hj => List.mem_cons_of_mem _ (a2 j hj), by rw [List.length_cons]; omega, fun h r x => a4 h r (stA_pop x)⟩
theorem M_pairs (sM : shModel h) (hn : h 1540 282 0 = (n : Int)) (h131 : n ≤ 131) (hs : ∀ k : Int, 0 ≤ k → k < n → h 2 311 k = s k) (hI : ∀ k : Int, 0 ≤ k → k < n → h 2 322 k = I k) : ∃ h2, vcl mX13_pairs [(1, 282), (0, o)] h = some (.inl none, h2) ∧ mF [323, 325] [] h h2 ∧ (∀ j ∈ Ch I o n 0, ¬ clo (s j) = -1 → h2 2 323 j = prB s (Ch I o n 0) [] (fun _ => -1) j) ∧ (∀ j : Int, 0 ≤ j → j < n → (¬ I j = o ∨ s j = 60 ∨ s j = 62) → h2 2 323 j = h 2 323 j) := by
  have loop : ∀ (f : Nat) (k : Int) (q : List Int) (m : Int → Int) (h1 : vH) (v4 : vv), k + f = n → 0 ≤ k → mF [323, 325] [] h h1 → stA h1 325 q → (q.length : Int) ≤ k → (∀ j ∈ q, 0 ≤ j ∧ j < k ∧ I j = o ∧ ¬ clo (s j) = -1) → (∀ j, k ≤ j → m j = -1) → (∀ j, 0 ≤ j → j < k → I j = o → ¬ clo (s j) = -1 → h1 2 323 j = m j) → (∀ j : Int, 0 ≤ j → j < n → (¬ I j = o ∨ s j = 60 ∨ s j = 62) → h1 2 323 j = h 2 323 j) →
      ∃ h2, vrun mX13_pairs 4 [(1, 282), (0, o), (0, (q.length : Int)), (0, k), v4] [] h1 = some (.inl none, h2) ∧ mF [323, 325] [] h h2 ∧ (∀ j : Int, 0 ≤ j → j < n → I j = o → ¬ clo (s j) = -1 → h2 2 323 j = prB s (Ch I o f k) q m j) ∧ (∀ j : Int, 0 ≤ j → j < n → (¬ I j = o ∨ s j = 60 ∨ s j = 62) → h2 2 323 j = h 2 323 j) := by
    intro f
    induction f with
    | zero =>
      intro k q m h1 v4 hk h0 hF hst hl hq hm ho hu
      have e0 : h1 1540 282 0 = (n : Int) := (hF _ _ _ (by simp) (by simp)).trans hn
      refine ⟨h1, ?_, hF, fun j a b c d => ho j a (by omega) c d, hu⟩
      rw [rX13_pairs_4 (shModel_sx (mF_sx hF (by decide)) sM), if_pos (by omega)]
      all_goals (first | (intros; omega) | assumption)
    | succ f ih =>
      intro k q m h1 v4 hk h0 hF hst hl hq hm ho hu
      have sM1 := shModel_sx (mF_sx hF (by decide)) sM
      have e0 : h1 1540 282 0 = (n : Int) := (hF _ _ _ (by simp) (by simp)).trans hn
      have e1 : h1 2 311 k = s k := (hF _ _ _ (by simp) (by simp)).trans (hs k h0 (by omega))
      have e2 : h1 2 322 k = I k := (hF _ _ _ (by simp) (by simp)).trans (hI k h0 (by omega))
      by_cases c : I k = o
      · by_cases op : clo (s k) = -1
        · by_cases cl : s k = 41 ∨ s k = 93
          · -- a closing bracket
            have hF2 : mF [323, 325] [] h (vup h1 2 323 k (-1)) := mF_up hF (Or.inl ⟨rfl, by decide⟩)
            have hst2 : stA (vup h1 2 323 k (-1)) 325 q := stA_eq hst fun i _ => vup_r (by decide)
            have sM2 := shModel_sx (mF_sx hF2 (by decide)) sM
            have go : vrun mX13_pairs 4 [(1, 282), (0, o), (0, (q.length : Int)), (0, k), v4] [] h1 = vrun mX13_pairs 99 [(1, 282), (0, o), (0, (q.length : Int)), (0, k), (0, (q.length : Int) - 1)] [] (vup h1 2 323 k (-1)) := by
              rw [rX13_pairs_4 sM1, if_neg (by omega), if_pos (e2.trans c), e1, M_clo, if_pos op, if_pos (e2.trans c)]
              · rcases cl with z | z
                · rw [if_pos z]
                · rw [if_neg (by omega), if_pos z]
              all_goals (first | (intros; omega) | assumption)
            have cu := M_cut (h := vup h1 2 323 k (-1)) (n := n) (s := s) (o := o) (x2 := (q.length : Int)) sM2 (fun j a b => (vup_r (by decide)).trans ((hF _ _ _ (by simp) (by simp)).trans (hs j a b))) h131 (k := k) ⟨h0, by omega⟩ q (by omega) hst2 (fun j hj => ⟨(hq j hj).1, by have := (hq j hj).2.1; omega⟩)
            have hd : prB s (Ch I o (f + 1) k) q m = match cutT s (s k) q with
                | none => prB s (Ch I o f (k + 1)) q m
                | some (a, t) => prB s (Ch I o f (k + 1)) t (ipd m a k) := by
              rw [Ch_yes c]
              show (if clo (s k) = -1 then (if s k = 41 ∨ s k = 93 then _ else _) else _) = _
              rw [if_pos op, if_pos cl]
              rfl
            have k60 : ¬ (s k = 60 ∨ s k = 62) := by omega
            cases ct : cutT s (s k) q with
            | none =>
              rw [ct] at cu hd
              obtain ⟨h2, a1, a2, a3, a4⟩ := ih (k + 1) q m _ (0, -1) (by omega) (by omega) hF2 hst2 (by omega) (fun j hj => by have := hq j hj; exact ⟨this.1, by omega, this.2.2⟩) (fun j hj => hm j (by omega)) (fun j b1 b2 b3 b4 => by
                have : j ≠ k := fun z => b4 (z ▸ op)
                rw [vup_2, if_neg this]
                exact ho j b1 (by omega) b3 b4) (fun j b1 b2 b3 => by
                have : j ≠ k := fun z => b3.elim (fun y => y (z ▸ c)) (fun y => k60 (z ▸ y))
                rw [vup_2, if_neg this]
                exact hu j b1 b2 b3)
              exact ⟨h2, by rw [go, cu]; exact a1, a2, fun j b1 b2 b3 b4 => by rw [hd]; exact a3 j b1 b2 b3 b4, a4⟩
            | some at_ =>
              obtain ⟨a, t⟩ := at_
              rw [ct] at cu hd
              obtain ⟨c1, c2, c3, c4⟩ := cutT_in q a t ct
              have ha := hq a c1
              have hF3 : mF [323, 325] [] h (vup (vup (vup h1 2 323 k (-1)) 2 323 k a) 2 323 a k) := mF_up (mF_up hF2 (Or.inl ⟨rfl, by decide⟩)) (Or.inl ⟨rfl, by decide⟩)
              have na60 : ¬ (s a = 60 ∨ s a = 62) := fun z => ha.2.2.2 (by
                unfold clo
                rw [if_neg (by omega), if_neg (by omega)])
              obtain ⟨h2, a1, a2, a3, a4⟩ := ih (k + 1) t (ipd m a k) _ (0, (t.length : Int)) (by omega) (by omega) hF3 (stA_eq (c4 _ _ hst2) fun i _ => (vup_r (by decide)).trans (vup_r (by decide))) (by omega) (fun j hj => by have := hq j (c2 j hj); exact ⟨this.1, by omega, this.2.2⟩) (fun j hj => by
                unfold ipd
                rw [if_neg (by omega)]
                exact hm j (by omega)) (fun j b1 b2 b3 b4 => by
                have : j ≠ k := fun z => b4 (z ▸ op)
                unfold ipd
                rw [vup_2, vup_2, vup_2]
                by_cases z : j = a
                · rw [if_pos z, if_pos z]
                · rw [if_neg z, if_neg z, if_neg this, if_neg this]
                  exact ho j b1 (by omega) b3 b4) (fun j b1 b2 b3 => by
                have n1 : j ≠ k := fun z => b3.elim (fun y => y (z ▸ c)) (fun y => k60 (z ▸ y))
                have n2 : j ≠ a := fun z => b3.elim (fun y => y (z ▸ ha.2.2.1)) (fun y => na60 (z ▸ y))
                rw [vup_2, if_neg n2, vup_2, if_neg n1, vup_2, if_neg n1]
                exact hu j b1 b2 b3)
              exact ⟨h2, by rw [go, cu]; exact a1, a2, fun j b1 b2 b3 b4 => by rw [hd]; exact a3 j b1 b2 b3 b4, a4⟩
          · obtain ⟨h2, a1, a2, a3, a4⟩ := ih (k + 1) q m h1 v4 (by omega) (by omega) hF hst (by omega) (fun j hj => by have := hq j hj; exact ⟨this.1, by omega, this.2.2⟩) (fun j hj => hm j (by omega)) (fun j b1 b2 b3 b4 => by
              have : j ≠ k := fun z => b4 (z ▸ op)
              exact ho j b1 (by omega) b3 b4) hu
            refine ⟨h2, ?_, a2, fun j b1 b2 b3 b4 => ?_, a4⟩
            · rw [rX13_pairs_4 sM1, if_neg (by omega), if_pos (e2.trans c), e1, M_clo, if_pos op, if_pos (e2.trans c), if_neg (by omega), if_neg (by omega)]
              · exact a1
              all_goals (first | (intros; omega) | assumption)
            · rw [a3 j b1 b2 b3 b4, Ch_yes c]
              show _ = (if clo (s k) = -1 then (if s k = 41 ∨ s k = 93 then _ else prB s (Ch I o f (k + 1)) q m) else _) j
              rw [if_pos op, if_neg cl]
        · have k60 : ¬ (s k = 60 ∨ s k = 62) := fun z => op (by
            unfold clo
            rw [if_neg (by omega), if_neg (by omega)])
          have hF2 : mF [323, 325] [] h (vup (vup h1 2 323 k (-1)) 2 325 q.length k) := mF_up (mF_up hF (Or.inl ⟨rfl, by decide⟩)) (Or.inl ⟨rfl, by decide⟩)
          obtain ⟨h2, a1, a2, a3, a4⟩ := ih (k + 1) (k :: q) m _ v4 (by omega) (by omega) hF2 (stA_push (stA_eq hst fun i _ => vup_r (by decide))) (by rw [List.length_cons]; omega) (fun j hj => by
            rcases List.mem_cons.mp hj with z | z
            · subst z; exact ⟨h0, by omega, c, op⟩
            · have := hq j z; exact ⟨this.1, by omega, this.2.2⟩) (fun j hj => hm j (by omega)) (fun j b1 b2 b3 b4 => by
            rw [vup_r (by decide), vup_2]
            by_cases z : j = k
            · rw [if_pos z, z, hm k (Int.le_refl _)]
            · rw [if_neg z]
              exact ho j b1 (by omega) b3 b4) (fun j b1 b2 b3 => by
            have : j ≠ k := fun z => b3.elim (fun y => y (z ▸ c)) (fun y => k60 (z ▸ y))
            rw [vup_r (by decide), vup_2, if_neg this]
            exact hu j b1 b2 b3)
          refine ⟨h2, ?_, a2, fun j b1 b2 b3 b4 => ?_, a4⟩
          · rw [rX13_pairs_4 sM1, if_neg (by omega), if_pos (e2.trans c), e1, M_clo, if_neg op, ← a1, List.length_cons]
            · rfl
            all_goals (first | (intros; omega) | assumption)
          · rw [a3 j b1 b2 b3 b4, Ch_yes c]
            show _ = (if clo (s k) = -1 then _ else prB s (Ch I o f (k + 1)) (k :: q) m) j
            rw [if_neg op]
      · have n2 : ¬ h1 2 322 k = o := by rw [e2]; exact c
        obtain ⟨h2, a1, a2, a3, a4⟩ := ih (k + 1) q m h1 v4 (by omega) (by omega) hF hst (by omega) (fun j hj => by have := hq j hj; exact ⟨this.1, by omega, this.2.2⟩) (fun j hj => hm j (by omega)) (fun j b1 b2 b3 b4 => by
          have : j ≠ k := fun z => c (z ▸ b3)
          exact ho j b1 (by omega) b3 b4) hu
        refine ⟨h2, ?_, a2, fun j b1 b2 b3 b4 => ?_, a4⟩
        · rw [rX13_pairs_4 sM1, if_neg (by omega), if_neg n2, if_neg n2]
          · exact a1
          all_goals (first | (intros; omega) | assumption)
        · rw [a3 j b1 b2 b3 b4, Ch_no c]
  obtain ⟨h2, a1, a2, a3, a4⟩ := loop n 0 [] (fun _ => -1) h (9, 0) (by omega) (by omega) mF_rf stA_nil (by simp) (fun j hj => by cases hj) (fun _ _ => rfl) (fun j a b => by omega) (fun _ _ _ _ => rfl)
  exact ⟨h2, rX13_pairs_0.trans a1, a2, fun j hj c => by
    obtain ⟨z1, z2, z3⟩ := (Ch_mem n 0 j).mp hj
    exact a3 j z1 (by omega) z3 c, a4⟩
end MP
