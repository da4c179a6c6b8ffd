/-! the levels of a sequence: the clusters that one < encloses directly (-1: the line) -/
def wy (g : Int) : Int := if (¬ (g < 110) ∧ ¬ (122 < g)) ∨ (¬ (g < 78) ∧ ¬ (90 < g)) then 1 else if (¬ (g < 97) ∧ ¬ (109 < g)) ∨ (¬ (g < 65) ∧ ¬ (77 < g)) then 0 else -1
theorem wy_in (g : Int) : wy g = 1 ∨ wy g = 0 ∨ wy g = -1 := by
  unfold wy
  split
  · exact Or.inl rfl
  · split
    · exact Or.inr (Or.inl rfl)
    · exact Or.inr (Or.inr rfl)
def fig (g : Int) : Prop := ¬ (g < 48) ∧ ¬ (57 < g)
/-- the closing bracket of an opening one -/
def clo (g : Int) : Int := if g = 40 then 41 else if g = 91 then 93 else -1
def ipd (f : Int → Int) (c v : Int) : Int → Int := fun j => if j = c then v else f j
/-- the clusters of a sequence, f of them looked at from k on -/
def Ch (I : Int → Int) (o : Int) : Nat → Int → List Int
  | 0, _ => []
  | f + 1, k => if I k = o then k :: Ch I o f (k + 1) else Ch I o f (k + 1)
section BD
variable (s : Int → Int)
def fW : List Int → Int
  | [] => -1
  | c :: r => if wy (s c) = -1 then fW r else wy (s c)
/-- letters and digits -/
noncomputable def stW : Int → List Int → Int → Int
  | _, [], _ => -1
  | x, c :: r, j => let y := if wy (s c) = -1 then x else wy (s c); if j = c then (if wy (s c) = -1 then @ite _ (fig (s c)) (Classical.propDecidable _) x (-1) else wy (s c)) else stW y r j
def cutT (g : Int) : List Int → Option (Int × List Int)
  | [] => none
  | o :: t => if clo (s o) = g then some (o, t) else cutT g t
/-- brackets: of an opening one the closing one -/
def prB : List Int → List Int → (Int → Int) → Int → Int
  | [], _, m => m
  | c :: r, q, m => if clo (s c) = -1 then (if s c = 41 ∨ s c = 93 then (match cutT s (s c) q with
      | none => prB r q m
      | some (o, t) => prB r t (ipd m o c)) else prB r q m) else prB r (c :: q) m
end BD
/-- the last way ahead of a bracket -/
def ahW (G : Int → Int) (e : Int) : Int → List Int → Int
  | x, [] => x
  | x, c :: r => if e ≤ c then x else ahW G e (if G c = -1 then x else G c) r
noncomputable def ofP (I G : Int → Int) (o : Int) (L : List Int) (c e b : Int) : Int :=
  @ite _ (anyI (fun x => I x = o ∧ G x = b) (c + 1) e) (Classical.propDecidable _) b (@ite _ (anyI (fun x => I x = o ∧ G x = 1 - b) (c + 1) e) (Classical.propDecidable _) (ahW G c b L) (-1))
/-- brackets take a way -/
noncomputable def bkW (s I m : Int → Int) (o b : Int) (L : List Int) : List Int → (Int → Int) → Int → Int
  | [], G => G
  | c :: r, G => if clo (s c) = -1 ∨ m c = -1 then bkW s I m o b L r G else bkW s I m o b L r (ipd (ipd G c (ofP I G o L c (m c) b)) (m c) (ofP I G o L c (m c) b))
/-- the first way of a list, b without one -/
def nxW (G : Int → Int) (b : Int) : List Int → Int
  | [] => b
  | c :: r => if G c = -1 then nxW G b r else G c
noncomputable def lvO (s : Int → Int) (B c w : Int) : Int := B + (B + w) % 2 + @ite _ (w = 1 ∧ fig (s c)) (Classical.propDecidable _) 1 0
/-- neutral ones between their neighbours; the levels -/
noncomputable def nuL (s G : Int → Int) (B : Int) : Int → List Int → Int → Int
  | _, [], _ => 0
  | x, c :: r, j => if G c = -1 then (if j = c then lvO s B c (if x = nxW G (B % 2) r then x else B % 2) else nuL s G B x r j) else (if j = c then lvO s B c (G c) else nuL s G B (G c) r j)
noncomputable def sqG (s I : Int → Int) (o b : Int) (L : List Int) : Int → Int := bkW s I (prB s L [] (fun _ => -1)) o b L L (stW s b L)
noncomputable def sqL (s I : Int → Int) (o B : Int) (L : List Int) : Int → Int := nuL s (sqG s I o (B % 2) L) B (B % 2) L
section CH
variable {I : Int → Int} {o : Int}
theorem Ch_mem : ∀ (f : Nat) (k c : Int), c ∈ Ch I o f k ↔ k ≤ c ∧ c < k + f ∧ I c = o
  | 0, k, c => ⟨fun h => (by cases h), fun h => (by omega)⟩
  | f + 1, k, c => by
    unfold Ch
    by_cases e : I k = o
    · rw [if_pos e, List.mem_cons, Ch_mem f (k + 1) c]
      constructor
      · rintro (z | z)
        · subst z; exact ⟨Int.le_refl _, by omega, e⟩
        · exact ⟨by omega, by omega, z.2.2⟩
      · intro z
        by_cases q : c = k
        · exact Or.inl q
        · exact Or.inr ⟨by omega, by omega, z.2.2⟩
    · rw [if_neg e, Ch_mem f (k + 1) c]
      constructor
      · intro z; exact ⟨by omega, by omega, z.2.2⟩
      · intro z
        have : c ≠ k := fun q => e (q ▸ z.2.2)
        exact ⟨by omega, by omega, z.2.2⟩
theorem Ch_yes {f : Nat} {k : Int} (e : I k = o) : Ch I o (f + 1) k = k :: Ch I o f (k + 1) := if_pos e
theorem Ch_no {f : Nat} {k : Int} (e : ¬ I k = o) : Ch I o (f + 1) k = Ch I o f (k + 1) := if_neg e
end CH

