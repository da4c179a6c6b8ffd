/-! draw: the reference compares and keeps -/
def sameR (a : vH) (p t k at_ : Int) : Prop := (0 ≤ at_ ∧ at_ < a 2 329 p) ∧ (dN a p t k = a 2 327 (24 * p + at_) ∧ dM a p t k = a 2 328 (24 * p + at_)) ∧ ∀ c, 0 ≤ c → c < dN a p t k → pkV a p (t + k) c = a 2 326 (132 * (24 * p + at_) + c)
noncomputable def tD (a : vH) (p t by_ : Int) : Nat → Int
  | 0 => 0
  | k + 1 => tD a p t by_ k + (if b2i (sameR a p t k (k + by_)) = 0 then 1 else 0)
def bdU (q : Int × Int) (by_ n : Int) : Int × Int := (if q.2 ≤ n then q.1 else by_, if q.2 ≤ n then q.2 else n)
noncomputable def bdS (a : vH) (p t : Int) : Nat → Int × Int
  | 0 => (0, tD a p t 0 (a 2 310 p).toNat)
  | k + 1 => bdU (bdU (bdS a p t k) ((k : Int) + 1) (tD a p t ((k : Int) + 1) (a 2 310 p).toNat)) (-((k : Int) + 1)) (tD a p t (-((k : Int) + 1)) (a 2 310 p).toNat)
/-- rows are kept: many and marks of J, the cells of K and c more -/
noncomputable def kpR (a : vH) (p t K J c : Int) : vH := fun k r i => if k = 2 ∧ r = 329 ∧ i = p then a 2 310 p else if k = 2 ∧ r = 327 ∧ 24 * p ≤ i ∧ i < 24 * p + J then dN a p t (i - 24 * p) else if k = 2 ∧ r = 328 ∧ 24 * p ≤ i ∧ i < 24 * p + J then dM a p t (i - 24 * p) else if k = 2 ∧ r = 326 ∧ 3168 * p ≤ i ∧ ((i - 3168 * p) / 132 < K ∧ (i - 3168 * p) % 132 < dN a p t ((i - 3168 * p) / 132) ∨ (i - 3168 * p) / 132 = K ∧ (i - 3168 * p) % 132 < c) then pkV a p (t + (i - 3168 * p) / 132) ((i - 3168 * p) % 132) else a k r i
section DR2
variable {h h1 h2 a b : vH} {p t l x r k c K J : Int}
theorem tD_in {by_ : Int} : ∀ k : Nat, 0 ≤ tD a p t by_ k ∧ tD a p t by_ k ≤ k
  | 0 => ⟨Int.le_refl _, Int.le_refl _⟩
  | k + 1 => by
    have ih := tD_in (by_ := by_) k
    unfold tD
    split <;> omega
end DR2

