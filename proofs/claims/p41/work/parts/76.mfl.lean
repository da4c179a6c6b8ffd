/-! the levels of a line -/
section LV
variable (s : Int → Int) (n : Nat)
/-- the < that encloses a cluster -/
def lI : Int → Int := fun c => inI s (iso s n).2 c.toNat
def lM : Int → Int := (iso s n).2
def wy1 (o : Int) : Int := if fW s (Ch (lI s n) o n 0) = 1 then 1 else 0
/-- the base of the line, and those of the < before k -/
def lB0 : Int := wy1 s n (-1)
def lBs : Nat → Int → Int
  | 0 => fun _ => -1
  | k + 1 => if s k = 60 ∧ ¬ lM s n k = -1 then ipd (lBs k) k ((if lI s n k = -1 then lB0 s n else lBs k (lI s n k)) + 1 + ((if lI s n k = -1 then lB0 s n else lBs k (lI s n k)) + 1 + wy1 s n k) % 2) else lBs k
def lB (o : Int) : Int := if o = -1 then lB0 s n else lBs s n n o
noncomputable def lL (j : Int) : Int := sqL s (lI s n) (lI s n j) (lB s n (lI s n j)) (Ch (lI s n) (lI s n j) n 0) j
variable {s : Int → Int} {n : Nat}
theorem lI_in {k : Nat} (hk : k < n) : lI s n k = -1 ∨ (0 ≤ lI s n k ∧ lI s n k < k ∧ s (lI s n k) = 60 ∧ ¬ lM s n (lI s n k) = -1) := by
  have e : lI s n k = (insP s (iso s n).2 (ins s (iso s n).2 k) k).headD (-1) := by
    show inI s (iso s n).2 ((k : Int).toNat) = _
    rw [show ((k : Int).toNat) = k by omega]
    rfl
  have sub : ∀ j ∈ insP s (iso s n).2 (ins s (iso s n).2 k) k, j ∈ ins s (iso s n).2 k := by
    intro j hj
    unfold insP at hj
    split at hj
    · exact List.mem_of_mem_tail hj
    · exact hj
  cases q : insP s (iso s n).2 (ins s (iso s n).2 k) k with
  | nil => rw [q] at e; exact Or.inl e
  | cons a r =>
    rw [q] at e
    have e : lI s n k = a := e
    have m := sub a (by rw [q]; exact List.mem_cons_self)
    rw [ins_iso k (by omega), List.mem_filter] at m
    have iv := (iso_inv (s := s) k).1 a m.1
    rw [e]
    exact Or.inr ⟨iv.1, iv.2.1, iv.2.2.1, by simpa [lM] using m.2⟩
theorem wy1_in {o : Int} : 0 ≤ wy1 s n o ∧ wy1 s n o ≤ 1 := by unfold wy1; split <;> omega
theorem lBs_in : ∀ k : Nat, k ≤ n → ∀ j : Nat, j < k → s j = 60 → ¬ lM s n j = -1 → 0 ≤ lBs s n k j ∧ lBs s n k j ≤ 2 * j + 3
  | 0, _, j, hj, _, _ => absurd hj (Nat.not_lt_zero j)
  | k + 1, hk, j, hj, h60, hm => by
    have w := wy1_in (s := s) (n := n) (o := k)
    have w0 := wy1_in (s := s) (n := n) (o := -1)
    have ih := lBs_in k (by omega)
    unfold lBs
    by_cases c : s k = 60 ∧ ¬ lM s n k = -1
    · rw [if_pos c]
      unfold ipd
      by_cases z : j = k
      · rw [if_pos (by omega)]
        subst z
        rcases lI_in (s := s) (n := n) (k := j) (by omega) with y | y
        · rw [if_pos y]
          unfold lB0
          omega
        · rw [if_neg (by omega)]
          have := ih (lI s n j).toNat (by omega) (by rw [show (((lI s n j).toNat : Nat) : Int) = lI s n j by omega]; exact y.2.2.1) (by rw [show (((lI s n j).toNat : Nat) : Int) = lI s n j by omega]; exact y.2.2.2)
          rw [show (((lI s n j).toNat : Nat) : Int) = lI s n j by omega] at this
          omega
      · rw [if_neg (by omega)]
        exact ih j (by omega) h60 hm
    · rw [if_neg c]
      have : j ≠ k := fun z => c (by subst z; exact ⟨h60, hm⟩)
      exact ih j (by omega) h60 hm
theorem lBs_keep {j : Nat} : ∀ k : Nat, j < k → lBs s n k j = lBs s n (j + 1) j
  | 0, h => absurd h (Nat.not_lt_zero j)
  | k + 1, h => by
    by_cases z : j = k
    · subst z; rfl
    · rw [← lBs_keep k (by omega)]
      show (if s k = 60 ∧ ¬ lM s n k = -1 then ipd (lBs s n k) k _ else lBs s n k) j = _
      split
      · unfold ipd
        rw [if_neg (by omega)]
      · rfl
end LV
section MFL
variable {h : vH} {n : Nat} {s : Int → Int}
end MFL

