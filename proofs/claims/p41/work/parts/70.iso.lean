/-! isolating signs: which > closes which <, and what stands inside -/
def isoN (s : Int → Int) (k : Nat) (q : List Int × (Int → Int)) : List Int × (Int → Int) :=
  if s k = 60 then ((k : Int) :: q.1, q.2) else if s k = 62 then (match q.1 with
    | [] => q
    | o :: r => (r, fun j : Int => if j = k then o else if j = o then (k : Int) else q.2 j)) else q
/-- the open ones, the last first, and the mates, behind k clusters -/
def iso (s : Int → Int) : Nat → List Int × (Int → Int)
  | 0 => ([], fun _ => -1)
  | k + 1 => isoN s k (iso s k)
def insP (s m : Int → Int) (q : List Int) (k : Nat) : List Int := if ¬ m k = -1 ∧ s k = 62 then q.tail else q
/-- the open ones that are closed later, ahead of the cluster k -/
def ins (s m : Int → Int) : Nat → List Int
  | 0 => []
  | k + 1 => if ¬ m k = -1 ∧ s k = 60 then (k : Int) :: insP s m (ins s m k) k else insP s m (ins s m k) k
/-- the < that encloses a cluster, -1 without one -/
def inI (s m : Int → Int) (k : Nat) : Int := (insP s m (ins s m k) k).headD (-1)
section ISO
variable {s : Int → Int}
theorem iso_open {k : Nat} (h : s k = 60) : iso s (k + 1) = ((k : Int) :: (iso s k).1, (iso s k).2) := if_pos h
theorem iso_close {k : Nat} {o : Int} {r : List Int} (h : s k = 62) (e : (iso s k).1 = o :: r) : iso s (k + 1) = (r, fun j : Int => if j = k then o else if j = o then (k : Int) else (iso s k).2 j) := by
  show isoN s k (iso s k) = _
  unfold isoN
  rw [if_neg (by omega), if_pos h, e]
theorem iso_lone {k : Nat} (h : s k = 62) (e : (iso s k).1 = []) : iso s (k + 1) = iso s k := by
  show isoN s k (iso s k) = _
  unfold isoN
  rw [if_neg (by omega), if_pos h, e]
theorem iso_else {k : Nat} (h : ¬ s k = 60) (h2 : ¬ s k = 62) : iso s (k + 1) = iso s k := by
  show isoN s k (iso s k) = _
  unfold isoN
  rw [if_neg h, if_neg h2]
/-- of the open ones: they stand ahead, are <, have no mate yet, the later ones first; what stands behind has no mate -/
theorem iso_inv : ∀ k : Nat, (∀ j ∈ (iso s k).1, 0 ≤ j ∧ j < k ∧ s j = 60 ∧ (iso s k).2 j = -1) ∧ (iso s k).1.Pairwise (fun a b => b < a) ∧ (∀ j : Int, (k : Int) ≤ j → (iso s k).2 j = -1) ∧ (∀ j : Int, (iso s k).2 j = -1 ∨ (0 ≤ (iso s k).2 j ∧ (iso s k).2 j < k ∧ 0 ≤ j ∧ j < k))
  | 0 => ⟨fun j h => (by cases h), List.Pairwise.nil, fun _ _ => rfl, fun _ => Or.inl rfl⟩
  | k + 1 => by
    obtain ⟨a, b, c, d⟩ := iso_inv k
    by_cases h : s k = 60
    · rw [iso_open h]
      dsimp only
      refine ⟨fun j hj => ?_, ?_, fun j hj => c j (by omega), fun j => ?_⟩
      · rcases List.mem_cons.mp hj with e | e
        · subst e; exact ⟨by omega, by omega, h, c _ (Int.le_refl _)⟩
        · have := a j e; exact ⟨this.1, by omega, this.2.2⟩
      · exact List.Pairwise.cons (fun j hj => (a j hj).2.1) b
      · rcases d j with e | e
        · exact Or.inl e
        · exact Or.inr ⟨e.1, by omega, e.2.2.1, by omega⟩
    · by_cases h2 : s k = 62
      · cases e : (iso s k).1 with
        | nil =>
          rw [iso_lone h2 e]
          refine ⟨fun j hj => ?_, b, fun j hj => c j (by omega), fun j => ?_⟩
          · rw [e] at hj; cases hj
          · rcases d j with e | e
            · exact Or.inl e
            · exact Or.inr ⟨e.1, by omega, e.2.2.1, by omega⟩
        | cons o r =>
          rw [iso_close h2 e]
          rw [e] at a b
          obtain ⟨b1, b2⟩ := List.pairwise_cons.mp b
          have ao := a o List.mem_cons_self
          refine ⟨fun j hj => ?_, b2, fun j hj => ?_, fun j => ?_⟩
          · have aj := a j (List.mem_cons_of_mem _ hj)
            have := b1 j hj
            refine ⟨aj.1, by omega, aj.2.2.1, ?_⟩
            show (if j = k then o else if j = o then (k : Int) else (iso s k).2 j) = -1
            rw [if_neg (by omega), if_neg (by omega)]
            exact aj.2.2.2
          · show (if j = k then o else if j = o then (k : Int) else (iso s k).2 j) = -1
            rw [if_neg (by omega), if_neg (by omega)]
            exact c j (by omega)
          · dsimp only
            by_cases e1 : j = k
            · rw [if_pos e1]; exact Or.inr ⟨ao.1, by omega, by omega, by omega⟩
            · rw [if_neg e1]
              by_cases e2 : j = o
              · rw [if_pos e2]; exact Or.inr ⟨by omega, by omega, by omega, by omega⟩
              · rw [if_neg e2]
                rcases d j with e | e
                · exact Or.inl e
                · exact Or.inr ⟨e.1, by omega, e.2.2.1, by omega⟩
      · rw [iso_else h h2]
        refine ⟨fun j hj => ?_, b, fun j hj => c j (by omega), fun j => ?_⟩
        · have := a j hj; exact ⟨this.1, by omega, this.2.2⟩
        · rcases d j with e | e
          · exact Or.inl e
          · exact Or.inr ⟨e.1, by omega, e.2.2.1, by omega⟩
/-- what is not open keeps its mate -/
theorem iso_keep {k : Nat} {j : Int} (h : j < k) (hn : j ∉ (iso s k).1) : j ∉ (iso s (k + 1)).1 ∧ (iso s (k + 1)).2 j = (iso s k).2 j := by
  by_cases h1 : s k = 60
  · rw [iso_open h1]
    exact ⟨fun z => (List.mem_cons.mp z).elim (fun e => by omega) hn, rfl⟩
  · by_cases h2 : s k = 62
    · cases e : (iso s k).1 with
      | nil => rw [iso_lone h2 e]; exact ⟨hn, rfl⟩
      | cons o r =>
        rw [iso_close h2 e]
        rw [e] at hn
        refine ⟨fun z => hn (List.mem_cons_of_mem _ z), ?_⟩
        show (if j = k then o else if j = o then (k : Int) else (iso s k).2 j) = _
        rw [if_neg (by omega), if_neg (fun z => hn (by rw [z]; exact List.mem_cons_self))]
    · rw [iso_else h1 h2]; exact ⟨hn, rfl⟩
theorem iso_fin {k n : Nat} (hk : k ≤ n) {j : Int} (h : j < k) (hn : j ∉ (iso s k).1) : j ∉ (iso s n).1 ∧ (iso s n).2 j = (iso s k).2 j := by
  induction hk with
  | refl => exact ⟨hn, rfl⟩
  | @step m hm ih =>
    have hm' : k ≤ m := hm
    have q := iso_keep (s := s) (k := m) (j := j) (by omega) ih.1
    exact ⟨q.1, q.2.trans ih.2⟩
/-- the open ones that are closed later are those of the first look that have a mate -/
theorem ins_iso {n : Nat} : ∀ k : Nat, k ≤ n → ins s (iso s n).2 k = (iso s k).1.filter (fun j => decide (¬ (iso s n).2 j = -1))
  | 0, _ => rfl
  | k + 1, hk => by
    have ih := ins_iso (n := n) k (by omega)
    have iv := iso_inv (s := s) k
    unfold ins insP
    by_cases h : s k = 60
    · rw [iso_open h, if_neg (fun z : ¬ (iso s n).2 k = -1 ∧ s k = 62 => by omega), ih, List.filter_cons]
      by_cases m : (iso s n).2 k = -1
      · rw [if_neg (fun z => z.1 m), if_neg (by simp [m])]
      · rw [if_pos ⟨m, h⟩, if_pos (by simp [m])]
    · rw [if_neg (fun z : ¬ (iso s n).2 k = -1 ∧ s k = 60 => h z.2)]
      by_cases h2 : s k = 62
      · cases e : (iso s k).1 with
        | nil =>
          have q := (iso_fin (s := s) (k := k + 1) (n := n) hk (j := k) (by omega) (by rw [iso_lone h2 e, e]; exact List.not_mem_nil)).2
          rw [iso_lone h2 e, iv.2.2.1 k (Int.le_refl _)] at q
          rw [if_neg (fun z => z.1 q), ih, iso_lone h2 e]
        | cons o r =>
          rw [e] at iv
          obtain ⟨b1, b2⟩ := List.pairwise_cons.mp iv.2.1
          have ao := iv.1 o List.mem_cons_self
          have ec := iso_close h2 e
          have nk : (k : Int) ∉ (iso s (k + 1)).1 := by
            rw [ec]; exact fun z => by have := (iv.1 _ (List.mem_cons_of_mem _ z)).2.1; omega
          have no : o ∉ (iso s (k + 1)).1 := by
            rw [ec]; exact fun z => by have := b1 o z; omega
          have q1 := (iso_fin (s := s) (k := k + 1) (n := n) hk (j := k) (by omega) nk).2
          have q2 := (iso_fin (s := s) (k := k + 1) (n := n) hk (j := o) (by omega) no).2
          rw [ec] at q1 q2
          have q1 : (iso s n).2 k = o := q1.trans (if_pos rfl)
          have q2 : (iso s n).2 o = k := q2.trans ((if_neg (by omega)).trans (if_pos rfl))
          rw [if_pos ⟨by omega, h2⟩, ih, e, List.filter_cons, if_pos (by rw [q2]; simp), ec]
          rfl
      · rw [if_neg (fun z => h2 z.2), ih, iso_else h h2]
/-- a > that has a mate finds it open -/
theorem ins_pop {n k : Nat} (hk : k < n) (m : ¬ (iso s n).2 k = -1) (h : s k = 62) : ∃ r, ins s (iso s n).2 k = (iso s n).2 k :: r := by
  have iv := iso_inv (s := s) k
  cases e : (iso s k).1 with
  | nil =>
    have q := (iso_fin (s := s) (k := k + 1) (n := n) hk (j := k) (by omega) (by rw [iso_lone h e, e]; exact List.not_mem_nil)).2
    rw [iso_lone h e, iv.2.2.1 k (Int.le_refl _)] at q
    exact absurd q m
  | cons o r =>
    rw [e] at iv
    obtain ⟨b1, b2⟩ := List.pairwise_cons.mp iv.2.1
    have ao := iv.1 o List.mem_cons_self
    have ec := iso_close h e
    have nk : (k : Int) ∉ (iso s (k + 1)).1 := by
      rw [ec]; exact fun z => by have := (iv.1 _ (List.mem_cons_of_mem _ z)).2.1; omega
    have no : o ∉ (iso s (k + 1)).1 := by
      rw [ec]; exact fun z => by have := b1 o z; omega
    have q1 := (iso_fin (s := s) (k := k + 1) (n := n) hk (j := k) (by omega) nk).2
    have q2 := (iso_fin (s := s) (k := k + 1) (n := n) hk (j := o) (by omega) no).2
    rw [ec] at q1 q2
    have q1 : (iso s n).2 k = o := q1.trans (if_pos rfl)
    have q2 : (iso s n).2 o = k := q2.trans ((if_neg (by omega)).trans (if_pos rfl))
    refine ⟨r.filter (fun j => decide (¬ (iso s n).2 j = -1)), ?_⟩
    rw [ins_iso k (by omega), e, List.filter_cons, if_pos (by rw [q2]; simp), q1]
end ISO

