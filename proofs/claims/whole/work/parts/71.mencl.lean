/-- an array that holds a stack, the top of the list the last one -/
def stA (h : vH) (r : Int) (q : List Int) : Prop := ∀ (i : Nat) (x : Int), q[i]? = some x → h 2 r ((q.length : Int) - 1 - i) = x
theorem stA_nil {h : vH} {r : Int} : stA h r [] := fun i x e => by cases e
theorem stA_top {h : vH} {r o : Int} {q : List Int} (a : stA h r (o :: q)) : h 2 r (q.length : Int) = o := by
  have := a 0 o rfl
  rw [List.length_cons] at this
  rw [← this]
  congr 1
  omega
theorem stA_pop {h : vH} {r o : Int} {q : List Int} (a : stA h r (o :: q)) : stA h r q := by
  intro i x e
  have := a (i + 1) x e
  rw [List.length_cons] at this
  rw [← this]
  congr 1
  omega
theorem stA_eq {h h2 : vH} {r : Int} {q : List Int} (a : stA h r q) (e : ∀ i : Int, i < q.length → h2 2 r i = h 2 r i) : stA h2 r q := by
  intro i x z
  rw [e _ (by omega)]
  exact a i x z
theorem stA_push {h : vH} {r c : Int} {q : List Int} (a : stA h r q) : stA (vup h 2 r q.length c) r (c :: q) := by
  intro i x e
  rw [List.length_cons]
  cases i with
  | zero =>
    cases e
    rw [show ((q.length + 1 : Nat) : Int) - 1 - ((0 : Nat) : Int) = (q.length : Int) by omega, vup_s]
  | succ i =>
    have hi := (List.getElem?_eq_some_iff.mp e).1
    rw [List.length_cons] at hi
    rw [vup_2, if_neg (by omega)]
    have := a i x e
    rw [← this]
    congr 1
    omega
abbrev eA : List Int := [323, 325, 322]
section ME
variable {h : vH} {n : Nat} {s : Int → Int}
theorem M_encl1 (sM : shModel h) (hn : h 1540 282 0 = (n : Int)) (h131 : n ≤ 131) (hs : ∀ k : Int, 0 ≤ k → k < n → h 2 311 k = s k) : ∀ (f k : Nat) (h1 : vH), k + f = n → mF [323, 325] [] h h1 → (iso s k).1.length ≤ k → stA h1 325 (iso s k).1 → (∀ j : Int, 0 ≤ j → j < k → h1 2 323 j = (iso s k).2 j) →
    ∃ h2, vrun mX13_encloses 4 [(1, 282), (0, ((iso s k).1.length : Int)), (0, k), (9, 0)] [] h1 = vrun mX13_encloses 95 [(1, 282), (0, 0), (0, 0), (9, 0)] [] h2 ∧ mF [323, 325] [] h h2 ∧ (∀ j : Int, 0 ≤ j → j < n → h2 2 323 j = (iso s n).2 j) := by
  intro f
  induction f with
  | zero =>
    intro k h1 hk hF hl hst hm
    have e1 : h1 1540 282 0 = (n : Int) := (hF _ _ _ (by simp) (by simp)).trans hn
    have ek : k = n := by omega
    subst ek
    refine ⟨h1, ?_, hF, hm⟩
    rw [rX13_encloses_4 (shModel_sx (mF_sx hF (by decide)) sM), if_pos (by omega)]
    all_goals (first | (intros; omega) | assumption)
  | succ f ih =>
    intro k h1 hk hF hl hst hm
    have sM1 := shModel_sx (mF_sx hF (by decide)) sM
    have e1 : h1 1540 282 0 = (n : Int) := (hF _ _ _ (by simp) (by simp)).trans hn
    have e3 : h1 2 311 k = s k := (hF _ _ _ (by simp) (by simp)).trans (hs k (by omega) (by omega))
    have iv := iso_inv (s := s) k
    by_cases c1 : s k = 60
    · have eo := iso_open c1
      have hF2 : mF [323, 325] [] h (vup (vup h1 2 323 k (-1)) 2 325 (iso s k).1.length k) := mF_up (mF_up hF (Or.inl ⟨rfl, by decide⟩)) (Or.inl ⟨rfl, by decide⟩)
      obtain ⟨h2, q1, q2, q3⟩ := ih (k + 1) _ (by omega) hF2 (by rw [eo, List.length_cons]; omega) (by
        rw [eo]
        exact stA_push (stA_eq hst fun i _ => vup_r (by decide))) (fun j a b => by
        rw [eo, vup_r (by decide), vup_2]
        by_cases z : j = k
        · rw [if_pos z, z]; exact (iv.2.2.1 k (Int.le_refl _)).symm
        · rw [if_neg z]; exact hm j a (by omega))
      refine ⟨h2, ?_, q2, q3⟩
      rw [rX13_encloses_4 sM1, if_neg (by omega)]
      · simp only [if_pos (e3.trans c1)]
        rw [← q1, eo, List.length_cons]
        rfl
      all_goals (first | (intros; omega) | assumption)
    · have n1 : ¬ h1 2 311 k = 60 := by rw [e3]; exact c1
      by_cases c2 : s k = 62
      · have p2 : h1 2 311 k = 62 := e3.trans c2
        cases e : (iso s k).1 with
        | nil =>
          have eo := iso_lone c2 e
          have hF2 : mF [323, 325] [] h (vup h1 2 323 k (-1)) := mF_up hF (Or.inl ⟨rfl, by decide⟩)
          obtain ⟨h2, q1, q2, q3⟩ := ih (k + 1) _ (by omega) hF2 (by rw [eo]; omega) (by rw [eo, e]; exact stA_nil) (fun j a b => by
            rw [eo, vup_2]
            by_cases z : j = k
            · rw [if_pos z, z]; exact (iv.2.2.1 k (Int.le_refl _)).symm
            · rw [if_neg z]; exact hm j a (by omega))
          refine ⟨h2, ?_, q2, q3⟩
          rw [rX13_encloses_4 sM1, if_neg (by omega)]
          · simp only [if_neg n1, if_pos p2]
            rw [← q1, eo, e]
            rfl
          all_goals (try rw [List.length_nil])
          all_goals (first | (intros; omega) | assumption)
        | cons o r =>
          have eo := iso_close c2 e
          rw [e] at iv hst hl
          have ao := iv.1 o List.mem_cons_self
          have top := stA_top hst
          rw [List.length_cons] at hl
          have t2 : (((o :: r).length : Nat) : Int) + -1 = (r.length : Int) := by rw [List.length_cons]; omega
          have hF2 : mF [323, 325] [] h (vup (vup (vup h1 2 323 k (-1)) 2 323 k o) 2 323 o k) := mF_up (mF_up (mF_up hF (Or.inl ⟨rfl, by decide⟩)) (Or.inl ⟨rfl, by decide⟩)) (Or.inl ⟨rfl, by decide⟩)
          obtain ⟨h2, q1, q2, q3⟩ := ih (k + 1) _ (by omega) hF2 (by rw [eo]; dsimp only; omega) (by
            rw [eo]
            exact stA_eq (stA_pop hst) fun i _ => (vup_r (by decide)).trans ((vup_r (by decide)).trans (vup_r (by decide)))) (fun j a b => by
            rw [eo, vup_2, vup_2, vup_2]
            dsimp only
            by_cases z : j = k
            · rw [if_neg (by omega), if_pos z, if_pos z]
            · by_cases z2 : j = o
              · rw [if_pos z2, if_neg z, if_pos z2]
              · rw [if_neg z2, if_neg z, if_neg z, if_neg z, if_neg z2]
                exact hm j a (by omega))
          refine ⟨h2, ?_, q2, q3⟩
          rw [rX13_encloses_4 sM1, if_neg (by omega)]
          · have c3 : ¬ (((o :: r).length : Nat) : Int) ≤ 0 := by rw [List.length_cons]; omega
            simp only [if_neg n1, if_pos p2, if_neg c3, t2, top]
            rw [← q1, eo]
            rfl
          all_goals (try rw [t2])
          all_goals (try rw [top])
          all_goals (try rw [List.length_cons])
          all_goals (first | (intros; omega) | assumption)
      · have n2 : ¬ h1 2 311 k = 62 := by rw [e3]; exact c2
        have eo := iso_else c1 c2
        have hF2 : mF [323, 325] [] h (vup h1 2 323 k (-1)) := mF_up hF (Or.inl ⟨rfl, by decide⟩)
        obtain ⟨h2, q1, q2, q3⟩ := ih (k + 1) _ (by omega) hF2 (by rw [eo]; omega) (by rw [eo]; exact stA_eq hst fun i _ => vup_r (by decide)) (fun j a b => by
          rw [eo, vup_2]
          by_cases z : j = k
          · rw [if_pos z, z]; exact (iv.2.2.1 k (Int.le_refl _)).symm
          · rw [if_neg z]; exact hm j a (by omega))
        refine ⟨h2, ?_, q2, q3⟩
        rw [rX13_encloses_4 sM1, if_neg (by omega)]
        · simp only [if_neg n1, if_neg n2]
          rw [← q1, eo]
          rfl
        all_goals (first | (intros; omega) | assumption)
end ME
