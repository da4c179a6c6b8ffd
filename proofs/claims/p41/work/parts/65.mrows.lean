/-- where an array holds another value -/
theorem vup_2 {h : vH} {k : Nat} {r i j v : Int} : vup h k r i v k r j = if j = i then v else h k r j := by
  unfold vup
  by_cases e : j = i
  · rw [if_pos ⟨rfl, rfl, e⟩, if_pos e]
  · rw [if_neg (fun z => e z.2.2), if_neg e]
section MR
variable {h : vH} {p W : Int} {n : Nat} {s : Int → Int}
end MR
section MR2
variable {h : vH} {p W d : Int} {n : Nat} {s : Int → Int}
end MR2

