/-! levels are small: what isolates has a mate -/
section LVL
variable {s : Int → Int} {n : Nat} {W d : Int} {R : Nat}
/-- a step of the stack of open ones -/
theorem iso_st (t : Nat) : (s t = 60 ∧ (iso s (t + 1)).1 = (t : Int) :: (iso s t).1) ∨ (iso s (t + 1)).1 = (iso s t).1 ∨ (∃ o r, (iso s t).1 = o :: r ∧ (iso s (t + 1)).1 = r ∧ (iso s (t + 1)).2 o = t) := by
  by_cases h : s t = 60
  · exact Or.inl ⟨h, by rw [iso_open h]⟩
  · by_cases h2 : s t = 62
    · cases e : (iso s t).1 with
      | nil => exact Or.inr (Or.inl (by rw [iso_lone h2 e]; exact e))
      | cons o r =>
        refine Or.inr (Or.inr ⟨o, r, rfl, by rw [iso_close h2 e], ?_⟩)
        rw [iso_close h2 e]
        have q := ((iso_inv (s := s) t).1 o (by rw [e]; exact List.mem_cons_self)).2.1
        show (if o = (t : Int) then o else if o = o then (t : Int) else (iso s t).2 o) = t
        rw [if_neg (by omega), if_pos rfl]
    · exact Or.inr (Or.inl (by rw [iso_else h h2]))
/-- one that is open at k and has a mate at last leaves later -/
theorem iso_leave {i : Int} (m : ¬ (iso s n).2 i = -1) : ∀ (f k : Nat), k + f = n → i ∈ (iso s k).1 → ∃ t : Nat, k ≤ t ∧ t < n ∧ i ∈ (iso s t).1 ∧ i ∉ (iso s (t + 1)).1 ∧ (iso s n).2 i = t
  | 0, k, hk, hi => by
    have e : k = n := by omega
    rw [e] at hi
    exact absurd ((iso_inv (s := s) n).1 i hi).2.2.2 m
  | f + 1, k, hk, hi => by
    by_cases h : i ∈ (iso s (k + 1)).1
    · obtain ⟨t, t1, t2⟩ := iso_leave m f (k + 1) (by omega) h
      exact ⟨t, by omega, t2⟩
    · refine ⟨k, Nat.le_refl _, by omega, hi, h, ?_⟩
      have ik := ((iso_inv (s := s) k).1 i hi).2.1
      have fin := (iso_fin (n := n) (k := k + 1) (by omega) (j := i) (by omega) h).2
      rw [fin]
      rcases iso_st (s := s) k with ⟨-, e⟩ | e | ⟨o, r, e1, e2, e3⟩
      · rw [e] at h; exact absurd (List.mem_cons_of_mem _ hi) h
      · rw [e] at h; exact absurd hi h
      · rw [e1] at hi
        rw [e2] at h
        rcases List.mem_cons.mp hi with z | z
        · rw [z]; exact e3
        · exact absurd z h
/-- what was open before stays below -/
theorem iso_below {j : Nat} (h60 : s j = 60) : ∀ (f : Nat), ((j : Int) ∈ (iso s (j + 1 + f)).1) → ∃ pre, (iso s (j + 1 + f)).1 = pre ++ (j : Int) :: (iso s j).1
  | 0, _ => ⟨[], by rw [Nat.add_zero, iso_open h60]; rfl⟩
  | f + 1, hj => by
    have e0 : j + 1 + (f + 1) = (j + 1 + f) + 1 := by omega
    rw [e0] at hj ⊢
    have nj : (j : Int) ∉ (iso s j).1 := fun w => by have := ((iso_inv (s := s) j).1 _ w).2.1; omega
    rcases iso_st (s := s) (j + 1 + f) with ⟨-, e⟩ | e | ⟨o, r, e1, e2, e3⟩
    · rw [e] at hj ⊢
      rcases List.mem_cons.mp hj with z | z
      · exact absurd z (by omega)
      · obtain ⟨pre, q⟩ := iso_below h60 f z
        exact ⟨((j + 1 + f : Nat) : Int) :: pre, by rw [q]; rfl⟩
    · rw [e] at hj ⊢
      exact iso_below h60 f hj
    · rw [e2] at hj
      obtain ⟨pre, q⟩ := iso_below h60 f (by rw [e1]; exact List.mem_cons_of_mem _ hj)
      rw [e1] at q
      cases pre with
      | nil =>
        rw [List.nil_append] at q
        have := (List.cons.inj q).2
        rw [this] at hj
        exact absurd hj nj
      | cons a pre' =>
        rw [List.cons_append] at q
        exact ⟨pre', by rw [e2]; exact (List.cons.inj q).2⟩
/-- mates nest -/
theorem iso_nest {j : Nat} {i : Int} (hj : j < n) (h60 : s j = 60) (hi : i ∈ (iso s j).1) (mi : ¬ (iso s n).2 i = -1) (mj : ¬ (iso s n).2 j = -1) : (j : Int) + 1 ≤ (iso s n).2 j ∧ (iso s n).2 j + 1 ≤ (iso s n).2 i ∧ (iso s n).2 i < n := by
  have j1 : (j : Int) ∈ (iso s (j + 1)).1 := by rw [iso_open h60]; exact List.mem_cons_self
  obtain ⟨t, t1, t2, t3, t4, t5⟩ := iso_leave (n := n) mj (n - (j + 1)) (j + 1) (by omega) j1
  have et : t = j + 1 + (t - (j + 1)) := by omega
  obtain ⟨pre, q⟩ := iso_below (s := s) h60 (t - (j + 1)) (by rw [← et]; exact t3)
  rw [← et] at q
  have i1 : i ∈ (iso s (t + 1)).1 := by
    rcases iso_st (s := s) t with ⟨-, e⟩ | e | ⟨o, r, e1, e2, e3⟩
    · rw [e] at t4; exact absurd (List.mem_cons_of_mem _ t3) t4
    · rw [e] at t4; exact absurd t3 t4
    · rw [e2] at t4 ⊢
      rw [e1] at q
      cases pre with
      | nil =>
        rw [List.nil_append] at q
        rw [(List.cons.inj q).2]
        exact hi
      | cons a pre' =>
        rw [List.cons_append] at q
        have e := (List.cons.inj q).2
        rw [e] at t4
        exact absurd (List.mem_append_right _ List.mem_cons_self) t4
  obtain ⟨t', u1, u2, -, -, u5⟩ := iso_leave (n := n) mi (n - (t + 1)) (t + 1) (by omega) i1
  rw [t5, u5]
  omega
theorem iso_mt {j : Nat} (hj : j < n) (h60 : s j = 60) (mj : ¬ (iso s n).2 j = -1) : (j : Int) + 1 ≤ (iso s n).2 j ∧ (iso s n).2 j < n := by
  have j1 : (j : Int) ∈ (iso s (j + 1)).1 := by rw [iso_open h60]; exact List.mem_cons_self
  obtain ⟨t, t1, t2, t3, t4, t5⟩ := iso_leave (n := n) mj (n - (j + 1)) (j + 1) (by omega) j1
  rw [t5]
  omega
/-- the one that encloses is open -/
theorem lI_mem {k : Nat} (hk : k < n) (h : ¬ lI s n k = -1) : lI s n k ∈ (iso s k).1 := by
  have e : lI s n k = (insP s (iso s n).2 (ins s (iso s n).2 k) k).headD (-1) := by
    show inI s (iso s n).2 ((k : Int).toNat) = _
    rw [show ((k : Int).toNat) = k by omega]
    rfl
  have sub : ∀ j ∈ insP s (iso s n).2 (ins s (iso s n).2 k) k, j ∈ ins s (iso s n).2 k := by
    intro j hj
    unfold insP at hj
    split at hj
    · exact List.mem_of_mem_tail hj
    · exact hj
  cases q : insP s (iso s n).2 (ins s (iso s n).2 k) k with
  | nil => rw [q] at e; exact absurd e h
  | cons a r =>
    rw [q] at e
    have e : lI s n k = a := e
    have m := sub a (by rw [q]; exact List.mem_cons_self)
    rw [ins_iso k (by omega), List.mem_filter] at m
    rw [e]
    exact m.1
theorem lBs_sm : ∀ k : Nat, k ≤ n → ∀ j : Nat, j < k → s j = 60 → ¬ lM s n j = -1 → 0 ≤ lBs s n k j ∧ lBs s n k j ≤ j + (n - 1 - lM s n j) + 3
  | 0, _, j, hj, _, _ => absurd hj (Nat.not_lt_zero j)
  | k + 1, hk, j, hj, h60, hm => by
    have w := wy1_in (s := s) (n := n) (o := k)
    have w0 := wy1_in (s := s) (n := n) (o := -1)
    have ih := lBs_sm k (by omega)
    have mt := iso_mt (s := s) (n := n) (j := j) (by omega) h60 hm
    unfold lBs
    by_cases c : s k = 60 ∧ ¬ lM s n k = -1
    · rw [if_pos c]
      unfold ipd
      by_cases z : j = k
      · rw [if_pos (by omega)]
        subst z
        rcases lI_in (s := s) (n := n) (k := j) (by omega) with y | y
        · rw [if_pos y]
          unfold lB0 lM
          omega
        · rw [if_neg (by omega)]
          have := ih (lI s n j).toNat (by omega) (by rw [show (((lI s n j).toNat : Nat) : Int) = lI s n j by omega]; exact y.2.2.1) (by rw [show (((lI s n j).toNat : Nat) : Int) = lI s n j by omega]; exact y.2.2.2)
          rw [show (((lI s n j).toNat : Nat) : Int) = lI s n j by omega] at this
          have ne := iso_nest (s := s) (n := n) (j := j) (i := lI s n j) (by omega) h60 (lI_mem (by omega) (by omega)) y.2.2.2 hm
          have e1 : lM s n (lI s n j) = (iso s n).2 (lI s n j) := rfl
          have e2 : lM s n j = (iso s n).2 j := rfl
          omega
      · rw [if_neg (by omega)]
        exact ih j (by omega) h60 hm
    · rw [if_neg c]
      by_cases z : j = k
      · subst z
        exact absurd ⟨h60, hm⟩ c
      · exact ih j (by omega) h60 hm
theorem lB_sm {k : Nat} (hk : k < n) : 0 ≤ lB s n (lI s n k) ∧ lB s n (lI s n k) ≤ n + 3 := by
  have w0 := wy1_in (s := s) (n := n) (o := -1)
  unfold lB
  rcases lI_in (s := s) (n := n) (k := k) hk with y | y
  · rw [if_pos y]; unfold lB0; omega
  · rw [if_neg (by omega)]
    have q : (((lI s n k).toNat : Nat) : Int) = lI s n k := by omega
    have := lBs_sm (s := s) (n := n) n (Nat.le_refl _) (lI s n k).toNat (by omega) (by rw [q]; exact y.2.2.1) (by rw [q]; exact y.2.2.2)
    have mt := iso_mt (s := s) (n := n) (j := (lI s n k).toNat) (by omega) (by rw [q]; exact y.2.2.1) (by rw [q]; exact y.2.2.2)
    rw [q] at this mt
    have e1 : lM s n (lI s n k) = (iso s n).2 (lI s n k) := rfl
    omega
theorem lL_sm {k : Nat} (hk : k < n) : 0 ≤ lL s n k ∧ lL s n k ≤ n + 5 := by
  have b := lB_sm (s := s) hk
  unfold lL sqL
  have := nuL_in (s := s) (G := sqG s (lI s n) (lI s n k) (lB s n (lI s n k) % 2) (Ch (lI s n) (lI s n k) n 0)) b.1 (Ch (lI s n) (lI s n k) n 0) (lB s n (lI s n k) % 2) k
  omega
theorem lV_sm (hd : 0 ≤ d ∧ d ≤ 4) (hW : 10 ≤ W) (n131 : n ≤ 131) {c : Int} (h0 : 0 ≤ c) (hc : c < n) : 0 ≤ lV s n W d c ∧ lV s n W d c ≤ 136 := by
  have w0 := wy1_in (s := s) (n := n) (o := -1)
  have q : ((c.toNat : Nat) : Int) = c := by omega
  have b := lL_sm (s := s) (n := n) (k := c.toNat) (by omega)
  rw [q] at b
  unfold lV oLv
  split
  · unfold lB0; omega
  · omega
end LVL

