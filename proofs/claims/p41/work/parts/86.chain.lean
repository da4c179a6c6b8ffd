/-! the class's chains: from an isolating sign to its mate -/
section CHN
variable {s : Int → Int} {n : Nat}
theorem iso_sym : ∀ (k : Nat) (j : Int), (iso s k).2 j = -1 ∨ ((iso s k).2 ((iso s k).2 j) = j ∧ ((s j = 60 ∧ j < (iso s k).2 j ∧ s ((iso s k).2 j) = 62) ∨ (s j = 62 ∧ (iso s k).2 j < j ∧ s ((iso s k).2 j) = 60)))
  | 0, _ => Or.inl rfl
  | k + 1, j => by
    have ih := iso_sym k
    have iv := iso_inv (s := s) k
    by_cases h : s k = 60
    · rw [iso_open h]; exact ih j
    · by_cases h2 : s k = 62
      · cases e : (iso s k).1 with
        | nil => rw [iso_lone h2 e]; exact ih j
        | cons o r =>
          rw [e] at iv
          have ao := iv.1 o List.mem_cons_self
          rw [iso_close h2 e]
          dsimp only
          by_cases e1 : j = k
          · subst e1
            rw [if_pos rfl, if_neg (by omega), if_pos rfl]
            exact Or.inr ⟨rfl, Or.inr ⟨h2, ao.2.1, ao.2.2.1⟩⟩
          · rw [if_neg e1]
            by_cases e2 : j = o
            · subst e2
              rw [if_pos rfl, if_pos rfl]
              exact Or.inr ⟨rfl, Or.inl ⟨ao.2.2.1, ao.2.1, h2⟩⟩
            · rw [if_neg e2]
              rcases ih j with q | ⟨q1, q2⟩
              · exact Or.inl q
              · right
                have d := iv.2.2.2 j
                have n1 : (iso s k).2 j ≠ k := by omega
                have n2 : (iso s k).2 j ≠ o := fun z => by
                  have := ao.2.2.2
                  rw [z] at q1
                  omega
                rw [if_neg n1, if_neg n2]
                exact ⟨q1, q2⟩
      · rw [iso_else h h2]; exact ih j
/-- the open ones at a cluster, behind what it closes -/
def iT (s : Int → Int) (n k : Nat) : List Int := insP s (iso s n).2 (ins s (iso s n).2 k) k
theorem lI_T {k : Nat} : lI s n k = (iT s n k).headD (-1) := by
  show inI s (iso s n).2 ((k : Int).toNat) = _
  rw [show ((k : Int).toNat) = k by omega]
  rfl
theorem lM_sym (j : Int) : lM s n j = -1 ∨ (lM s n (lM s n j) = j ∧ ((s j = 60 ∧ j < lM s n j ∧ s (lM s n j) = 62) ∨ (s j = 62 ∧ lM s n j < j ∧ s (lM s n j) = 60))) := iso_sym n j
theorem lM_in (j : Int) : lM s n j = -1 ∨ (0 ≤ lM s n j ∧ lM s n j < n ∧ 0 ≤ j ∧ j < n) := (iso_inv (s := s) n).2.2.2 j
theorem ins_open {k : Nat} (h : s k = 60) (m : ¬ lM s n k = -1) : ins s (lM s n) (k + 1) = (k : Int) :: iT s n k := if_pos ⟨m, h⟩
theorem ins_other {k : Nat} (h : ¬ (s k = 60 ∧ ¬ lM s n k = -1)) : ins s (lM s n) (k + 1) = iT s n k := if_neg (fun z => h ⟨z.2, z.1⟩)
theorem iT_pop {k : Nat} (hk : k < n) (h : s k = 62) (m : ¬ lM s n k = -1) : ins s (lM s n) k = lM s n k :: iT s n k := by
  obtain ⟨r, e⟩ := ins_pop hk m h
  have e' : ins s (lM s n) k = lM s n k :: r := e
  rw [e']
  show _ = _ :: insP s (lM s n) (ins s (lM s n) k) k
  unfold insP
  rw [if_pos ⟨m, h⟩, e']
  rfl
theorem iT_stay {k : Nat} (h : ¬ (s k = 62 ∧ ¬ lM s n k = -1)) : iT s n k = ins s (lM s n) k := if_neg (fun z => h ⟨z.2, z.1⟩)
theorem ins_lt {k : Nat} (hk : k ≤ n) : ∀ j ∈ ins s (lM s n) k, 0 ≤ j ∧ j < k := by
  intro j hj
  have e : ins s (lM s n) k = _ := ins_iso (s := s) (n := n) k hk
  rw [e, List.mem_filter] at hj
  have := (iso_inv (s := s) k).1 j hj.1
  omega
theorem iT_sub {k : Nat} : ∀ j ∈ iT s n k, j ∈ ins s (lM s n) k := by
  intro j hj
  unfold iT insP at hj
  split at hj
  · exact List.mem_of_mem_tail hj
  · exact hj
/-- between a < and its mate it stays open -/
theorem ins_span {k : Nat} (hk : k < n) (h : s k = 60) (m : ¬ lM s n k = -1) : ∀ d : Nat, (k + 1 + d : Int) ≤ lM s n k → ∃ Q, ins s (lM s n) (k + 1 + d) = Q ++ ((k : Int) :: iT s n k) ∧ ∀ x ∈ Q, (k : Int) < x
  | 0, _ => ⟨[], ins_open h m, fun x hx => by cases hx⟩
  | d + 1, hd => by
    obtain ⟨Q, q1, q2⟩ := ins_span hk h m d (by omega)
    have mi := (lM_in (s := s) (n := n) k).resolve_left m
    have pop : ∃ Q', iT s n (k + 1 + d) = Q' ++ ((k : Int) :: iT s n k) ∧ ∀ x ∈ Q', (k : Int) < x := by
      by_cases c : s (k + 1 + d : Nat) = 62 ∧ ¬ lM s n (k + 1 + d : Nat) = -1
      · have p := iT_pop (n := n) (k := k + 1 + d) (by omega) c.1 c.2
        cases Q with
        | nil =>
          rw [q1] at p
          have p1 : (k : Int) = lM s n (k + 1 + d : Nat) := (List.cons.inj p).1
          have y := (lM_sym (s := s) (n := n) (k + 1 + d : Nat)).resolve_left c.2
          rw [← p1] at y
          omega
        | cons a Q' =>
          rw [q1] at p
          exact ⟨Q', (List.cons.inj p).2.symm, fun x hx => q2 x (List.mem_cons_of_mem _ hx)⟩
      · rw [iT_stay c]
        exact ⟨Q, q1, q2⟩
    obtain ⟨Q', p1, p2⟩ := pop
    rw [show k + 1 + (d + 1) = (k + 1 + d) + 1 by omega]
    by_cases c : s (k + 1 + d : Nat) = 60 ∧ ¬ lM s n (k + 1 + d : Nat) = -1
    · rw [ins_open c.1 c.2, p1]
      refine ⟨((k + 1 + d : Nat) : Int) :: Q', rfl, fun x hx => ?_⟩
      rcases List.mem_cons.mp hx with z | z
      · omega
      · exact p2 x z
    · rw [ins_other c, p1]
      exact ⟨Q', rfl, p2⟩
/-- inside of it everything is enclosed later -/
theorem lI_span {k j : Nat} (hk : k < n) (h : s k = 60) (m : ¬ lM s n k = -1) (a : k < j) (b : (j : Int) < lM s n k) : (k : Int) ≤ lI s n j := by
  obtain ⟨Q, q1, q2⟩ := ins_span hk h m (j - (k + 1)) (by omega)
  rw [show k + 1 + (j - (k + 1)) = j by omega] at q1
  have mi := (lM_in (s := s) (n := n) k).resolve_left m
  rw [lI_T]
  by_cases c : s j = 62 ∧ ¬ lM s n j = -1
  · have p := iT_pop (n := n) (k := j) (by omega) c.1 c.2
    rw [q1] at p
    cases Q with
    | nil =>
      have p1 : (k : Int) = lM s n j := (List.cons.inj p).1
      have y := (lM_sym (s := s) (n := n) j).resolve_left c.2
      rw [← p1] at y
      omega
    | cons x Q' =>
      rw [← (List.cons.inj p).2]
      cases Q' with
      | nil => exact Int.le_refl _
      | cons y Q'' => exact Int.le_of_lt (q2 y (List.mem_cons_of_mem _ List.mem_cons_self))
  · rw [iT_stay c, q1]
    cases Q with
    | nil => exact Int.le_refl _
    | cons y Q'' => exact Int.le_of_lt (q2 y List.mem_cons_self)
/-- the mate stands where the < does -/
theorem iT_mate {k e : Nat} (hk : k < n) (h : s k = 60) (m : lM s n k = e) : iT s n e = iT s n k ∧ k < e ∧ e < n ∧ s e = 62 ∧ lM s n e = k := by
  have m0 : ¬ lM s n k = -1 := by omega
  have mi := (lM_in (s := s) (n := n) k).resolve_left m0
  have y := (lM_sym (s := s) (n := n) k).resolve_left m0
  rw [m] at mi y
  have y1 : lM s n e = k := y.1
  have y2 : s e = 62 := by
    rcases y.2 with z | z
    · exact z.2.2
    · omega
  have y3 : (k : Int) < e := by
    rcases y.2 with z | z
    · exact z.2.1
    · omega
  obtain ⟨Q, q1, q2⟩ := ins_span hk h m0 (e - (k + 1)) (by omega)
  rw [show k + 1 + (e - (k + 1)) = e by omega] at q1
  have p := iT_pop (n := n) (k := e) (by omega) y2 (by omega)
  rw [q1, y1] at p
  refine ⟨?_, by omega, by omega, y2, y1⟩
  cases Q with
  | nil => exact (List.cons.inj p).2.symm
  | cons x Q' =>
    have := q2 x List.mem_cons_self
    have := (List.cons.inj p).1
    omega
/-- where a sequence ends -/
def lEnd (s : Int → Int) (n : Nat) (o : Int) : Int := if o = -1 then n else lM s n o
/-- the line, or a < with a mate -/
def isSq (s : Int → Int) (n : Nat) (o : Int) : Prop := o = -1 ∨ (0 ≤ o ∧ o < n ∧ s o = 60 ∧ ¬ lM s n o = -1)
theorem lEnd_in {o : Int} (ho : isSq s n o) : o < lEnd s n o ∧ lEnd s n o ≤ n := by
  unfold lEnd
  rcases ho with z | z
  · rw [if_pos z]; omega
  · rw [if_neg (by omega)]
    have := (lM_in (s := s) (n := n) o).resolve_left z.2.2.2
    have y := (lM_sym (s := s) (n := n) o).resolve_left z.2.2.2
    rcases y.2 with w | w <;> omega
/-- the first one of a sequence -/
theorem lI_first {o : Int} (ho : isSq s n o) (h : o + 1 < lEnd s n o) : lI s n (o + 1) = o := by
  have en := lEnd_in ho
  rcases ho with z | z
  · subst z
    show inI s (iso s n).2 0 = -1
    unfold inI insP
    split <;> rfl
  · obtain ⟨k, rfl⟩ : ∃ k : Nat, o = k := ⟨o.toNat, by omega⟩
    rw [show (k : Int) + 1 = ((k + 1 : Nat) : Int) by omega, lI_T]
    have c : ¬ (s (k + 1 : Nat) = 62 ∧ ¬ lM s n (k + 1 : Nat) = -1) := by
      intro c
      have p := iT_pop (n := n) (k := k + 1) (by omega) c.1 c.2
      rw [ins_open z.2.2.1 z.2.2.2] at p
      have p1 : (k : Int) = lM s n (k + 1 : Nat) := (List.cons.inj p).1
      have y := (lM_sym (s := s) (n := n) (k + 1 : Nat)).resolve_left c.2
      rw [← p1] at y
      unfold lEnd at h
      rw [if_neg (by omega)] at h
      omega
    rw [iT_stay c, ins_open z.2.2.1 z.2.2.2]
    rfl
/-- the next one of a chain -/
def nxC (s : Int → Int) (n : Nat) (k : Int) : Int := if s k = 60 ∧ ¬ lM s n k = -1 then lM s n k else k + 1
theorem nxC_step {o : Int} (ho : isSq s n o) {k : Nat} (a : o < k) (b : (k : Int) < lEnd s n o) (hi : lI s n k = o) : (k : Int) < nxC s n k ∧ nxC s n k ≤ lEnd s n o ∧ (nxC s n k = lEnd s n o ∨ lI s n (nxC s n k) = o) ∧ ∀ j : Int, (k : Int) < j → j < nxC s n k → ¬ lI s n j = o := by
  have en := lEnd_in ho
  unfold nxC
  by_cases c : s k = 60 ∧ ¬ lM s n k = -1
  · rw [if_pos c]
    have mi := (lM_in (s := s) (n := n) k).resolve_left c.2
    obtain ⟨e, he⟩ : ∃ e : Nat, lM s n k = e := ⟨(lM s n k).toNat, by omega⟩
    obtain ⟨t1, t2, t3, t4, t5⟩ := iT_mate (n := n) (k := k) (by omega) c.1 he
    rw [he]
    have li : lI s n e = o := by rw [lI_T, t1, ← lI_T, hi]
    refine ⟨by omega, ?_, Or.inr li, fun j u v => ?_⟩
    · refine Int.not_lt.mp fun z => ?_
      unfold lEnd at b z
      rcases ho with y | y
      · rw [if_pos y] at z; omega
      · rw [if_neg (by omega)] at z b
        have y3 := (lM_in (s := s) (n := n) o).resolve_left y.2.2.2
        obtain ⟨q, rfl⟩ : ∃ q : Nat, o = q := ⟨o.toNat, by omega⟩
        obtain ⟨f, hf⟩ : ∃ f : Nat, lM s n q = f := ⟨(lM s n q).toNat, by omega⟩
        obtain ⟨u1, u2, u3, u4, u5⟩ := iT_mate (n := n) (k := q) (by omega) y.2.2.1 hf
        have l1 := lI_span (n := n) (k := k) (j := f) (by omega) c.1 c.2 (by omega) (by omega)
        have l2 : lI s n f = lI s n q := by rw [lI_T, u1, ← lI_T]
        rcases lI_in (s := s) (n := n) (k := q) (by omega) with w | w <;> omega
    · obtain ⟨x, rfl⟩ : ∃ x : Nat, j = x := ⟨j.toNat, by omega⟩
      have := lI_span (n := n) (k := k) (j := x) (by omega) c.1 c.2 (by omega) (by omega)
      omega
  · rw [if_neg c]
    refine ⟨by omega, by omega, ?_, fun j u v => by omega⟩
    by_cases z : (k : Int) + 1 = lEnd s n o
    · exact Or.inl z
    · right
      rw [show (k : Int) + 1 = ((k + 1 : Nat) : Int) by omega, lI_T]
      by_cases d : s (k + 1 : Nat) = 62 ∧ ¬ lM s n (k + 1 : Nat) = -1
      · exfalso
        have p := iT_pop (n := n) (k := k + 1) (by omega) d.1 d.2
        rw [ins_other c] at p
        have p1 : lI s n k = lM s n (k + 1 : Nat) := by rw [lI_T, p]; rfl
        rw [hi] at p1
        have y := (lM_sym (s := s) (n := n) (k + 1 : Nat)).resolve_left d.2
        rw [← p1] at y
        unfold lEnd at z
        rcases ho with w | w
        · rw [w] at p1; exact d.2 p1.symm
        · rw [if_neg (by omega)] at z
          omega
      · rw [iT_stay d, ins_other c, ← lI_T, hi]
/-- nothing of a sequence stands outside -/
theorem lI_out {o : Int} (ho : isSq s n o) {j : Nat} (hj : j < n) (h : (j : Int) ≤ o ∨ lEnd s n o ≤ j) : ¬ lI s n j = o := by
  intro e
  rcases lI_in (s := s) (n := n) (k := j) hj with w | w
  · rcases ho with z | z
    · unfold lEnd at h
      rw [if_pos z] at h
      omega
    · omega
  · rcases ho with z | z
    · omega
    · unfold lEnd at h
      rw [if_neg (by omega)] at h
      have y3 := (lM_in (s := s) (n := n) o).resolve_left z.2.2.2
      obtain ⟨q, rfl⟩ : ∃ q : Nat, o = q := ⟨o.toNat, by omega⟩
      obtain ⟨f, hf⟩ : ∃ f : Nat, lM s n q = f := ⟨(lM s n q).toNat, by omega⟩
      obtain ⟨u1, u2, u3, u4, u5⟩ := iT_mate (n := n) (k := q) (by omega) z.2.2.1 hf
      by_cases g : j = f
      · subst g
        have l2 : lI s n j = lI s n q := by rw [lI_T, u1, ← lI_T]
        rcases lI_in (s := s) (n := n) (k := q) (by omega) with w | w <;> omega
      · have notin : (q : Int) ∉ (iso s (f + 1)).1 := by
          intro hq
          have e2 : ins s (lM s n) (f + 1) = _ := ins_iso (s := s) (n := n) (f + 1) (by omega)
          have m2 : (q : Int) ∈ ins s (lM s n) (f + 1) := by
            rw [e2, List.mem_filter]
            refine ⟨hq, ?_⟩
            have : ¬ (iso s n).2 q = -1 := z.2.2.2
            simpa using this
          rw [ins_other (by omega), u1] at m2
          have := ins_lt (s := s) (n := n) (k := q) (by omega) _ (iT_sub _ m2)
          omega
        have n2 := (iso_fin (s := s) (k := f + 1) (n := j) (by omega) (j := q) (by omega) notin).1
        apply n2
        have e3 : ins s (lM s n) j = _ := ins_iso (s := s) (n := n) j (by omega)
        have m3 : lI s n j ∈ ins s (lM s n) j := by
          apply iT_sub
          rw [lI_T] at e w ⊢
          cases q2 : iT s n j with
          | nil => rw [q2] at w; exact absurd w.1 (by decide)
          | cons a b => exact List.mem_cons_self
        rw [e, e3, List.mem_filter] at m3
        exact m3.1
theorem Ch_add {I : Int → Int} {o : Int} : ∀ (f g : Nat) (k : Int), Ch I o (f + g) k = Ch I o f k ++ Ch I o g (k + f)
  | 0, g, k => by
    show Ch I o (0 + g) k = Ch I o g (k + ((0 : Nat) : Int))
    rw [Nat.zero_add, show k + ((0 : Nat) : Int) = k by omega]
  | f + 1, g, k => by
    have ih := Ch_add (I := I) (o := o) f g (k + 1)
    rw [show f + 1 + g = (f + g) + 1 by omega]
    rw [show k + 1 + (f : Int) = k + ((f + 1 : Nat) : Int) by omega] at ih
    by_cases e : I k = o
    · rw [Ch_yes e, Ch_yes e, ih]; rfl
    · rw [Ch_no e, Ch_no e, ih]
theorem Ch_nil {I : Int → Int} {o : Int} : ∀ (f : Nat) (k : Int), (∀ j, k ≤ j → j < k + f → ¬ I j = o) → Ch I o f k = []
  | 0, _, _ => rfl
  | f + 1, k, h => by
    rw [Ch_no (h k (Int.le_refl _) (by omega))]
    exact Ch_nil f (k + 1) (fun j a b => h j (by omega) (by omega))
/-- a sequence is what stands from the < to its mate -/
theorem Ch_in {o : Int} (ho : isSq s n o) : Ch (lI s n) o n 0 = Ch (lI s n) o (lEnd s n o - (o + 1)).toNat (o + 1) := by
  have en := lEnd_in ho
  have o1 : -1 ≤ o := by rcases ho with z | z <;> omega
  have e : n = (o + 1).toNat + ((lEnd s n o - (o + 1)).toNat + (n - lEnd s n o).toNat) := by omega
  have st : Ch (lI s n) o ((o + 1).toNat + ((lEnd s n o - (o + 1)).toNat + (n - lEnd s n o).toNat)) 0 = Ch (lI s n) o (lEnd s n o - (o + 1)).toNat (o + 1) := by
    rw [Ch_add, Ch_add, Ch_nil (o + 1).toNat 0 (fun j a b => ?_), List.nil_append, show (0 : Int) + ((o + 1).toNat : Int) = o + 1 by omega, Ch_nil (n - lEnd s n o).toNat _ (fun j a b => ?_), List.append_nil]
    · have := lI_out ho (j := j.toNat) (by omega) (Or.inr (by omega))
      rw [show ((j.toNat : Nat) : Int) = j by omega] at this
      exact this
    · have := lI_out ho (j := j.toNat) (by omega) (Or.inl (by omega))
      rw [show ((j.toNat : Nat) : Int) = j by omega] at this
      exact this
  rw [← e] at st
  exact st
/-- a step of a chain -/
theorem Ch_step {o : Int} (ho : isSq s n o) {k : Nat} (a : o < k) (b : (k : Int) < lEnd s n o) (hi : lI s n k = o) : Ch (lI s n) o (lEnd s n o - k).toNat k = (k : Int) :: Ch (lI s n) o (lEnd s n o - nxC s n k).toNat (nxC s n k) := by
  obtain ⟨q1, q2, -, q4⟩ := nxC_step ho a b hi
  rw [show (lEnd s n o - k).toNat = ((nxC s n k - (k + 1)).toNat + (lEnd s n o - nxC s n k).toNat) + 1 by omega, Ch_yes hi, Ch_add, Ch_nil _ _ (fun j u v => q4 j (by omega) (by omega)), List.nil_append, show (k : Int) + 1 + ((nxC s n k - (k + 1)).toNat : Int) = nxC s n k by omega]
end CHN

