/-- only these arrays and these scalars of the reference are written -/
def mF (A : List Int) (K : List Nat) (h h2 : vH) : Prop := ∀ (k : Nat) (r i : Int), ¬ (k = 2 ∧ r ∈ A) → ¬ (r = 282 ∧ k ∈ K) → h2 k r i = h k r i
theorem mF_rf {A : List Int} {K : List Nat} {h : vH} : mF A K h h := fun _ _ _ _ _ => rfl
theorem mF_up {A : List Int} {K : List Nat} {h h2 : vH} {k : Nat} {r i v : Int} (x : mF A K h h2) (e : (k = 2 ∧ r ∈ A) ∨ (r = 282 ∧ k ∈ K)) : mF A K h (vup h2 k r i v) := by
  intro k' r' i' e1 e2
  unfold vup
  split
  · rename_i z
    obtain ⟨rfl, rfl, rfl⟩ := z
    exact (e.elim e1 e2).elim
  · exact x k' r' i' e1 e2
theorem mF_sx {A : List Int} {K : List Nat} {h h2 : vH} (x : mF A K h h2) (hK : ∀ k ∈ K, stk k = false) : sx h h2 := by
  intro k r i e
  refine x k r i (fun z => ?_) (fun z => ?_)
  · rw [z.1] at e; cases e
  · rw [hK k z.2] at e; cases e
abbrev Clu : Type := Int × Int × Int × Int
abbrev cA : List Int := [311, 312, 313, 314]
/-- the sign of a virtual text from its bit b on -/
def vsg (z b : Int) : Int := w32 (bland (blshr z b) 255)
/-- the signs of a virtual text: n of them from the bit b on -/
def vch (z : Int) : Nat → Int → List Int
  | 0, _ => []
  | n + 1, b => (if vsg z b ≤ 0 then [] else [vsg z b]) ++ vch z n (b + 8)
theorem vch_len {z : Int} : ∀ (n : Nat) (b : Int), (vch z n b).length ≤ n
  | 0, _ => Nat.le_refl _
  | n + 1, b => by
    have := vch_len (z := z) n (b + 8)
    unfold vch
    rw [List.length_append]
    split
    · simp; omega
    · simp; omega
def mVon (a : vH) (l lo hi k : Int) : Prop := a 2 298 k = l ∧ ¬ (a 2 299 k < lo) ∧ ¬ (hi < a 2 299 k)
/-- the virtual texts of a line with places from lo to hi: the n from k on -/
noncomputable def mVt (a : vH) (l lo hi : Int) : Nat → Int → List Clu
  | 0, _ => []
  | n + 1, k => @ite _ (mVon a l lo hi k) (Classical.propDecidable _) ((vch (a 2 300 k) 8 0).map (fun s => (s, 1, -1, a 2 299 k))) [] ++ mVt a l lo hi n (k + 1)
/-- room for them -/
noncomputable def mVn (a : vH) (l lo hi : Int) : Nat → Int → Nat
  | 0, _ => 0
  | n + 1, k => @ite _ (mVon a l lo hi k) (Classical.propDecidable _) 8 0 + mVn a l lo hi n (k + 1)
theorem mVt_len {a : vH} {l lo hi : Int} : ∀ (n : Nat) (k : Int), (mVt a l lo hi n k).length ≤ mVn a l lo hi n k
  | 0, _ => Nat.le_refl _
  | n + 1, k => by
    have := mVt_len (a := a) (l := l) (lo := lo) (hi := hi) n (k + 1)
    unfold mVt mVn
    rw [List.length_append]
    by_cases e : mVon a l lo hi k
    · rw [if_pos e, if_pos e, List.length_map]
      have := vch_len (z := a 2 300 k) 8 0
      omega
    · rw [if_neg e, if_neg e]
      simp
      omega
section AV
variable {h : vH} {p l lo hi : Int}
end AV

