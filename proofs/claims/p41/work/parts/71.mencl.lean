/-- an array that holds a stack, the top of the list the last one -/
def stA (h : vH) (r : Int) (q : List Int) : Prop := ∀ (i : Nat) (x : Int), q[i]? = some x → h 2 r ((q.length : Int) - 1 - i) = x
theorem stA_nil {h : vH} {r : Int} : stA h r [] := fun i x e => by cases e
theorem stA_top {h : vH} {r o : Int} {q : List Int} (a : stA h r (o :: q)) : h 2 r (q.length : Int) = o := by
  have := a 0 o rfl
  rw [List.length_cons] at this
  rw [← this]
  congr 1
  omega
theorem stA_pop {h : vH} {r o : Int} {q : List Int} (a : stA h r (o :: q)) : stA h r q := by
  intro i x e
  have := a (i + 1) x e
  rw [List.length_cons] at this
  rw [← this]
  congr 1
  omega
theorem stA_eq {h h2 : vH} {r : Int} {q : List Int} (a : stA h r q) (e : ∀ i : Int, i < q.length → h2 2 r i = h 2 r i) : stA h2 r q := by
  intro i x z
  rw [e _ (by omega)]
  exact a i x z
theorem stA_push {h : vH} {r c : Int} {q : List Int} (a : stA h r q) : stA (vup h 2 r q.length c) r (c :: q) := by
  intro i x e
  rw [List.length_cons]
  cases i with
  | zero =>
    cases e
    rw [show ((q.length + 1 : Nat) : Int) - 1 - ((0 : Nat) : Int) = (q.length : Int) by omega, vup_s]
  | succ i =>
    have hi := (List.getElem?_eq_some_iff.mp e).1
    rw [List.length_cons] at hi
    rw [vup_2, if_neg (by omega)]
    have := a i x e
    rw [← this]
    congr 1
    omega
abbrev eA : List Int := [323, 325, 322]
section ME
variable {h : vH} {n : Nat} {s : Int → Int}
end ME
section ME2
variable {h : vH} {n : Nat} {s : Int → Int}
end ME2

