section MO
variable {h : vH} {n : Nat} {s I G : Int → Int} {o b : Int}
/-- a way -/
def isW (w : Int) : Prop := w = -1 ∨ w = 0 ∨ w = 1
theorem ahW_in {e : Int} : ∀ (L : List Int) (x : Int), isW x → (∀ j ∈ L, isW (G j)) → isW (ahW G e x L)
  | [], x, hx, _ => hx
  | c :: r, x, hx, hL => by
    unfold ahW
    split
    · exact hx
    · refine ahW_in r _ ?_ (fun j hj => hL j (List.mem_cons_of_mem _ hj))
      split
      · exact hx
      · exact hL c List.mem_cons_self
theorem ofP_in {L : List Int} {c e : Int} (hb : b = 0 ∨ b = 1) (hL : ∀ j ∈ L, isW (G j)) : isW (ofP I G o L c e b) := by
  unfold ofP
  split
  · exact Or.inr hb
  · split
    · exact ahW_in L b (Or.inr hb) hL
    · exact Or.inl rfl
end MO

