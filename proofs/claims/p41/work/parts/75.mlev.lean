section MN
variable {h : vH} {n : Nat} {s I G : Int → Int} {o B : Int}
theorem stW_in {b : Int} (hb : b = 0 ∨ b = 1) : ∀ (L : List Int) (x : Int), (x = 0 ∨ x = 1) → ∀ j, isW (stW s x L j)
  | [], _, _, _ => Or.inl rfl
  | c :: r, x, hx, j => by
    unfold stW
    dsimp only
    by_cases w : wy (s c) = -1
    · rw [if_pos w, if_pos w]
      split
      · split
        · exact Or.inr hx
        · exact Or.inl rfl
      · exact stW_in hb r x hx j
    · rw [if_neg w, if_neg w]
      have w2 : wy (s c) = 0 ∨ wy (s c) = 1 := by rcases wy_in (s c) with z | z | z <;> omega
      split
      · exact Or.inr w2
      · exact stW_in hb r _ w2 j
end MN

