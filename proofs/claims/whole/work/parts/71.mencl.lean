/-- an array that holds a stack, the top of the list the last one -/
def stA (h : vH) (r : Int) (q : List Int) : Prop := ∀ (i : Nat) (x : Int), q[i]? = some x → h 2 r ((q.length : Int) - 1 - i) = x
theorem stA_nil {h : vH} {r : Int} : stA h r [] := fun i x e => by cases e
theorem stA_top {h : vH} {r o : Int} {q : List Int} (a : stA h r (o :: q)) : h 2 r (q.length : Int) = o := by
  have := a 0 o rfl
  rw [List.length_cons] at this
  rw [← this]
  congr 1
  omega
theorem stA_pop {h : vH} {r o : Int} {q : List Int} (a : stA h r (o :: q)) : stA h r q := by
  intro i x e
  have := a (i + 1) x e
  rw [List.length_cons] at this
  rw [← this]
  congr 1
  omega
theorem stA_eq {h h2 : vH} {r : Int} {q : List Int} (a : stA h r q) (e : ∀ i : Int, i < q.length → h2 2 r i = h 2 r i) : stA h2 r q := by
  intro i x z
  rw [e _ (by omega)]
  exact a i x z
theorem stA_push {h : vH} {r c : Int} {q : List Int} (a : stA h r q) : stA (vup h 2 r q.length c) r (c :: q) := by
  intro i x e
  rw [List.length_cons]
  cases i with
  | zero =>
    cases e
    rw [show ((q.length + 1 : Nat) : Int) - 1 - ((0 : Nat) : Int) = (q.length : Int) by omega, vup_s]
  | succ i =>
    have hi := (List.getElem?_eq_some_iff.mp e).1
    rw [List.length_cons] at hi
    rw [vup_2, if_neg (by omega)]
    have := a i x e
    rw [← this]
    congr 1
    omega
abbrev eA : List Int := [323, 325, 322]
section ME
variable {h : vH} {n : Nat} {s : Int → Int}
theorem M_encl1 (sM : shModel h) (hn : h 1540 282 0 = (n : Int)) (h131 : n ≤ 131) (hs : ∀ k : Int, 0 ≤ k → k < n → h 2 311 k = s k) : ∀ (f k : Nat) (h1 : vH), k + f = n → mF [323, 325] [] h h1 → (iso s k).1.length ≤ k → stA h1 325 (iso s k).1 → (∀ j : Int, 0 ≤ j → j < k → h1 2 323 j = (iso s k).2 j) →
    ∃ h2, vrun mX13_encloses 4 [(1, 282), (0, ((iso s k).1.length : Int)), (0, k), (9, 0)] [] h1 = vrun mX13_encloses 95 [(1, 282), (0, 0), (0, 0), (9, 0)] [] h2 ∧ mF [323, 325] [] h h2 ∧ (∀ j : Int, 0 ≤ j → j < n → h2 2 323 j = (iso s n).2 j) := by
  intro f
  induction f with
  | zero =>
    intro k h1 hk hF hl hst hm
    have e1 : h1 1540 282 0 = (n : Int) := (hF _ _ _ (by simp) (by simp)).trans hn
    have ek : k = n := by omega
    subst ek
    refine ⟨h1, ?_, hF, hm⟩
    rw [rX13_encloses_4 (shModel_sx (mF_sx hF (by decide)) sM), if_pos (by omega)]
    all_goals (first | (intros; omega) | assumption)
  | succ f ih =>
    intro k h1 hk hF hl hst hm
    have sM1 := shModel_sx (mF_sx hF (by decide)) sM
    have e1 : h1 1540 282 0 = (n : Int) := (hF _ _ _ (by simp) (by simp)).trans hn
    have e3 : h1 2 311 k = s k := (hF _ _ _ (by simp) (by simp)).trans (hs k (by omega) (by omega))
    have iv := iso_inv (s := s) k
    by_cases c1 : s k = 60
    · have eo := iso_open c1
      have hF2 : mF [323, 325] [] h (vup (vup h1 2 323 k (-1)) 2 325 (iso s k).1.length k) := mF_up (mF_up hF (Or.inl ⟨rfl, by decide⟩)) (Or.inl ⟨rfl, by decide⟩)
      obtain ⟨h2, q1, q2, q3⟩ := ih (k + 1) _ (by omega) hF2 (by rw [eo, List.length_cons]; omega) (by
        rw [eo]
        exact stA_push (stA_eq hst fun i _ => vup_r (by decide))) (fun j a b => by
        rw [eo, vup_r (by decide), vup_2]
        by_cases z : j = k
        · rw [if_pos z, z]; exact (iv.2.2.1 k (Int.le_refl _)).symm
        · rw [if_neg z]; exact hm j a (by omega))
      refine ⟨h2, ?_, q2, q3⟩
      rw [rX13_encloses_4 sM1, if_neg (by omega)]
      · simp only [if_pos (e3.trans c1)]
        rw [← q1, eo, List.length_cons]
        rfl
      all_goals (first | (intros; omega) | assumption)
    · have n1 : ¬ h1 2 311 k = 60 := by rw [e3]; exact c1
      by_cases c2 : s k = 62
      · have p2 : h1 2 311 k = 62 := e3.trans c2
        cases e : (iso s k).1 with
        | nil =>
          have eo := iso_lone c2 e
          have hF2 : mF [323, 325] [] h (vup h1 2 323 k (-1)) := mF_up hF (Or.inl ⟨rfl, by decide⟩)
          obtain ⟨h2, q1, q2, q3⟩ := ih (k + 1) _ (by omega) hF2 (by rw [eo]; omega) (by rw [eo, e]; exact stA_nil) (fun j a b => by
            rw [eo, vup_2]
            by_cases z : j = k
            · rw [if_pos z, z]; exact (iv.2.2.1 k (Int.le_refl _)).symm
            · rw [if_neg z]; exact hm j a (by omega))
          refine ⟨h2, ?_, q2, q3⟩
          rw [rX13_encloses_4 sM1, if_neg (by omega)]
          · simp only [if_neg n1, if_pos p2]
            rw [← q1, eo, e]
            rfl
          all_goals (try rw [List.length_nil])
          all_goals (first | (intros; omega) | assumption)
        | cons o r =>
          have eo := iso_close c2 e
          rw [e] at iv hst hl
          have ao := iv.1 o List.mem_cons_self
          have top := stA_top hst
          rw [List.length_cons] at hl
          have t2 : (((o :: r).length : Nat) : Int) + -1 = (r.length : Int) := by rw [List.length_cons]; omega
          have hF2 : mF [323, 325] [] h (vup (vup (vup h1 2 323 k (-1)) 2 323 k o) 2 323 o k) := mF_up (mF_up (mF_up hF (Or.inl ⟨rfl, by decide⟩)) (Or.inl ⟨rfl, by decide⟩)) (Or.inl ⟨rfl, by decide⟩)
          obtain ⟨h2, q1, q2, q3⟩ := ih (k + 1) _ (by omega) hF2 (by rw [eo]; dsimp only; omega) (by
            rw [eo]
            exact stA_eq (stA_pop hst) fun i _ => (vup_r (by decide)).trans ((vup_r (by decide)).trans (vup_r (by decide)))) (fun j a b => by
            rw [eo, vup_2, vup_2, vup_2]
            dsimp only
            by_cases z : j = k
            · rw [if_neg (by omega), if_pos z, if_pos z]
            · by_cases z2 : j = o
              · rw [if_pos z2, if_neg z, if_pos z2]
              · rw [if_neg z2, if_neg z, if_neg z, if_neg z, if_neg z2]
                exact hm j a (by omega))
          refine ⟨h2, ?_, q2, q3⟩
          rw [rX13_encloses_4 sM1, if_neg (by omega)]
          · have c3 : ¬ (((o :: r).length : Nat) : Int) ≤ 0 := by rw [List.length_cons]; omega
            simp only [if_neg n1, if_pos p2, if_neg c3, t2, top]
            rw [← q1, eo]
            rfl
          all_goals (try rw [t2])
          all_goals (try rw [top])
          all_goals (try rw [List.length_cons])
          all_goals (first | (intros; omega) | assumption)
      · have n2 : ¬ h1 2 311 k = 62 := by rw [e3]; exact c2
        have eo := iso_else c1 c2
        have hF2 : mF [323, 325] [] h (vup h1 2 323 k (-1)) := mF_up hF (Or.inl ⟨rfl, by decide⟩)
        obtain ⟨h2, q1, q2, q3⟩ := ih (k + 1) _ (by omega) hF2 (by rw [eo]; omega) (by rw [eo]; exact stA_eq hst fun i _ => vup_r (by decide)) (fun j a b => by
          rw [eo, vup_2]
          by_cases z : j = k
          · rw [if_pos z, z]; exact (iv.2.2.1 k (Int.le_refl _)).symm
          · rw [if_neg z]; exact hm j a (by omega))
        refine ⟨h2, ?_, q2, q3⟩
        rw [rX13_encloses_4 sM1, if_neg (by omega)]
        · simp only [if_neg n1, if_neg n2]
          rw [← q1, eo]
          rfl
        all_goals (first | (intros; omega) | assumption)
end ME
section ME2
variable {h : vH} {n : Nat} {s : Int → Int}
theorem M_encl2 (sM : shModel h) (hn : h 1540 282 0 = (n : Int)) (h131 : n ≤ 131) (hs : ∀ k : Int, 0 ≤ k → k < n → h 2 311 k = s k) (hm : ∀ j : Int, 0 ≤ j → j < n → h 2 323 j = (iso s n).2 j) : ∀ (f k : Nat) (h1 : vH) (v3 : vv), k + f = n → mF [322, 325] [] h h1 → (ins s (iso s n).2 k).length ≤ k → stA h1 325 (ins s (iso s n).2 k) → (∀ j : Nat, j < k → h1 2 322 j = inI s (iso s n).2 j) →
    ∃ h2, vrun mX13_encloses 95 [(1, 282), (0, ((ins s (iso s n).2 k).length : Int)), (0, k), v3] [] h1 = some (.inl none, h2) ∧ mF [322, 325] [] h h2 ∧ (∀ j : Nat, j < n → h2 2 322 j = inI s (iso s n).2 j) := by
  intro f
  induction f with
  | zero =>
    intro k h1 v3 hk hF hl hst hi
    have e1 : h1 1540 282 0 = (n : Int) := (hF _ _ _ (by simp) (by simp)).trans hn
    have ek : k = n := by omega
    subst ek
    refine ⟨h1, ?_, hF, hi⟩
    rw [rX13_encloses_95x (shModel_sx (mF_sx hF (by decide)) sM), if_pos (by omega)]
    all_goals (first | (intros; omega) | assumption)
  | succ f ih =>
    intro k h1 v3 hk hF hl hst hi
    have sM1 := shModel_sx (mF_sx hF (by decide)) sM
    have e1 : h1 1540 282 0 = (n : Int) := (hF _ _ _ (by simp) (by simp)).trans hn
    have e3 : h1 2 311 k = s k := (hF _ _ _ (by simp) (by simp)).trans (hs k (by omega) (by omega))
    have e4 : h1 2 323 k = (iso s n).2 k := (hF _ _ _ (by simp) (by simp)).trans (hm k (by omega) (by omega))
    -- what is taken from the stack
    have pop : (((insP s (iso s n).2 (ins s (iso s n).2 k) k).length : Nat) : Int) = ((ins s (iso s n).2 k).length : Int) - (if (¬ ((iso s n).2 k = -1) ∧ (s k = 60 ∨ s k = 62)) ∧ s k = 62 then 1 else 0) ∧ stA h1 325 (insP s (iso s n).2 (ins s (iso s n).2 k) k) := by
      unfold insP
      by_cases c : ¬ (iso s n).2 k = -1 ∧ s k = 62
      · obtain ⟨r, er⟩ := ins_pop (s := s) (n := n) (k := k) (by omega) c.1 c.2
        rw [if_pos c, if_pos ⟨⟨c.1, Or.inr c.2⟩, c.2⟩, er]
        rw [er] at hst
        exact ⟨by rw [List.length_cons, List.tail_cons]; omega, stA_pop hst⟩
      · rw [if_neg c, if_neg (fun z => c ⟨z.1.1, z.2⟩)]
        exact ⟨by omega, hst⟩
    obtain ⟨p1, p2⟩ := pop
    have go : vrun mX13_encloses 95 [(1, 282), (0, ((ins s (iso s n).2 k).length : Int)), (0, k), v3] [] h1 = vrun mX13_encloses 164 [(1, 282), (0, ((insP s (iso s n).2 (ins s (iso s n).2 k) k).length : Int)), (0, k), (0, if ¬ ((iso s n).2 k = -1) ∧ (s k = 60 ∨ s k = 62) then 1 else 0)] [] h1 := by
      rw [rX13_encloses_95x sM1, if_neg (by omega), e3, e4, ← p1]
      all_goals (try rw [e3])
      all_goals (try rw [e4])
      all_goals (try rw [← p1])
      all_goals (first | (intros; omega) | assumption)
    have hd : (if (((insP s (iso s n).2 (ins s (iso s n).2 k) k).length : Nat) : Int) = 0 then (-1 : Int) else h1 2 325 ((((insP s (iso s n).2 (ins s (iso s n).2 k) k).length : Nat) : Int) - 1)) = inI s (iso s n).2 k := by
      unfold inI
      cases e : insP s (iso s n).2 (ins s (iso s n).2 k) k with
      | nil => rfl
      | cons o r =>
        rw [e] at p2
        have := stA_top p2
        rw [List.length_cons, if_neg (by omega), show ((r.length + 1 : Nat) : Int) - 1 = (r.length : Int) by omega, this]
        rfl
    have ln : (insP s (iso s n).2 (ins s (iso s n).2 k) k).length ≤ k := by
      have : (insP s (iso s n).2 (ins s (iso s n).2 k) k).length ≤ (ins s (iso s n).2 k).length := by
        unfold insP
        split
        · rw [List.length_tail]; omega
        · omega
      omega
    by_cases c : ¬ (iso s n).2 k = -1 ∧ s k = 60
    · have ei : ins s (iso s n).2 (k + 1) = (k : Int) :: insP s (iso s n).2 (ins s (iso s n).2 k) k := if_pos c
      have hF2 : mF [322, 325] [] h (vup (vup h1 2 322 k (inI s (iso s n).2 k)) 2 325 (insP s (iso s n).2 (ins s (iso s n).2 k) k).length k) := mF_up (mF_up hF (Or.inl ⟨rfl, by decide⟩)) (Or.inl ⟨rfl, by decide⟩)
      obtain ⟨h2, q1, q2, q3⟩ := ih (k + 1) _ (0, 1) (by omega) hF2 (by rw [ei, List.length_cons]; omega) (by
        rw [ei]
        exact stA_push (stA_eq p2 fun i _ => vup_r (by decide))) (fun j hj => by
        rw [vup_r (by decide), vup_2]
        by_cases z : j = k
        · subst z; rw [if_pos rfl]
        · rw [if_neg (by omega)]; exact hi j (by omega))
      refine ⟨h2, ?_, q2, q3⟩
      have m1 : ¬ ((iso s n).2 k = -1) ∧ (s k = 60 ∨ s k = 62) := ⟨c.1, Or.inl c.2⟩
      rw [go, if_pos m1, rX13_encloses_164x sM1, if_neg (by decide), if_pos (e3.trans c.2), if_neg (by decide), if_pos (e3.trans c.2), hd, ← q1, ei, List.length_cons]
      · rfl
      all_goals (first | (intros; omega) | assumption)
    · have ei : ins s (iso s n).2 (k + 1) = insP s (iso s n).2 (ins s (iso s n).2 k) k := if_neg c
      have hF2 : mF [322, 325] [] h (vup h1 2 322 k (inI s (iso s n).2 k)) := mF_up hF (Or.inl ⟨rfl, by decide⟩)
      obtain ⟨h2, q1, q2, q3⟩ := ih (k + 1) _ (0, if ¬ ((iso s n).2 k = -1) ∧ (s k = 60 ∨ s k = 62) then 1 else 0) (by omega) hF2 (by rw [ei]; omega) (by
        rw [ei]
        exact stA_eq p2 fun i _ => vup_r (by decide)) (fun j hj => by
        rw [vup_2]
        by_cases z : j = k
        · subst z; rw [if_pos rfl]
        · rw [if_neg (by omega)]; exact hi j (by omega))
      refine ⟨h2, ?_, q2, q3⟩
      rw [go, rX13_encloses_164x sM1, hd, ← q1, ei]
      · by_cases m1 : ¬ ((iso s n).2 k = -1) ∧ (s k = 60 ∨ s k = 62)
        · have n1 : ¬ h1 2 311 k = 60 := by rw [e3]; exact fun z => c ⟨m1.1, z⟩
          rw [if_pos m1, if_neg (by decide), if_neg n1, if_neg (by decide), if_neg n1]
          rfl
        · rw [if_neg m1, if_pos rfl, if_pos rfl]
          rfl
      · intros; omega
      · intros; omega
      · intros; omega
      · intros; omega
      · intros; omega
      · intros; omega
      · intros; omega
      · intros; omega
theorem M_encl (sM : shModel h) (hn : h 1540 282 0 = (n : Int)) (h131 : n ≤ 131) (hs : ∀ k : Int, 0 ≤ k → k < n → h 2 311 k = s k) :
    ∃ h2, vcl mX13_encloses [(1, 282)] h = some (.inl none, h2) ∧ mF eA [] h h2 ∧ (∀ j : Int, 0 ≤ j → j < n → h2 2 323 j = (iso s n).2 j) ∧ (∀ j : Nat, j < n → h2 2 322 j = inI s (iso s n).2 j) := by
  obtain ⟨h1, a1, a2, a3⟩ := M_encl1 sM hn h131 hs n 0 h (by omega) mF_rf (Nat.le_refl _) stA_nil (fun j a b => by omega)
  have sM1 := shModel_sx (mF_sx a2 (by decide)) sM
  obtain ⟨h2, b1, b2, b3⟩ := M_encl2 (s := s) sM1 ((a2 _ _ _ (by simp) (by simp)).trans hn) h131 (fun k a b => (a2 _ _ _ (by simp) (by simp)).trans (hs k a b)) a3 n 0 h1 (9, 0) (by omega) mF_rf (Nat.le_refl _) stA_nil (fun j hj => absurd hj (Nat.not_lt_zero j))
  exact ⟨h2, rX13_encloses_0.trans (a1.trans b1), mF_tr (mF_le a2 (by decide) (by decide)) (mF_le b2 (by decide) (by decide)), fun j a b => (b2 _ _ _ (by simp) (by simp)).trans (a3 j a b), b3⟩
end ME2
