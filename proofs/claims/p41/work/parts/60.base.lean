/-! L2: WHAT THE METHODS DO -/
noncomputable def b2i (P : Prop) : Int := @ite _ P (Classical.propDecidable P) 1 0
theorem b2i_t {P : Prop} (h : P) : b2i P = 1 := if_pos h
theorem b2i_f {P : Prop} (h : ¬ P) : b2i P = 0 := if_neg h
theorem b2i_c {P Q : Prop} (h : P ↔ Q) : b2i P = b2i Q := by rw [propext h]
theorem b2i_0 {P : Prop} : b2i P = 0 ↔ ¬ P := by
  by_cases h : P
  · rw [b2i_t h]; exact ⟨fun z => absurd z (by decide), fun z => absurd h z⟩
  · rw [b2i_f h]; exact ⟨fun _ => h, fun _ => rfl⟩
theorem b2i_01 {P : Prop} : b2i P = 0 ∨ b2i P = 1 := by
  by_cases h : P
  · exact Or.inr (b2i_t h)
  · exact Or.inl (b2i_f h)
theorem b2i_if {P : Prop} {d : Decidable P} : (if P then (1 : Int) else 0) = b2i P := by
  by_cases h : P
  · rw [if_pos h, b2i_t h]
  · rw [if_neg h, b2i_f h]
/-- one of i, .., n - 1 -/
def anyI (P : Int → Prop) (i n : Int) : Prop := ∃ j, i ≤ j ∧ j < n ∧ P j
theorem any_nil {P : Int → Prop} {i n : Int} (h : n ≤ i) : ¬ anyI P i n := fun ⟨j, a, b, _⟩ => by omega
theorem any_step {P : Int → Prop} {i n : Int} (h : i < n) : anyI P i n ↔ P i ∨ anyI P (i + 1) n := by
  constructor
  · rintro ⟨j, a, b, c⟩
    by_cases e : j = i
    · subst e; exact Or.inl c
    · exact Or.inr ⟨j, by omega, b, c⟩
  · rintro (c | ⟨j, a, b, c⟩)
    · exact ⟨i, Int.le_refl _, h, c⟩
    · exact ⟨j, by omega, b, c⟩
/-- upward: from the end back to the beginning -/
theorem up_ind {P : Int → Prop} {n : Int} (hn : P n) (hs : ∀ i, i < n → P (i + 1) → P i) : ∀ i, i ≤ n → P i := by
  have key : ∀ (k : Nat) (i : Int), i + k = n → P i := by
    intro k
    induction k with
    | zero => intro i h; rw [show i = n by omega]; exact hn
    | succ k ih => intro i h; exact hs i (by omega) (ih (i + 1) (by omega))
  intro i h
  exact key (n - i).toNat i (by omega)

