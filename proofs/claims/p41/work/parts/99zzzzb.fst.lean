/-! THE FIRST HEAP: what the constructors leave holds between two calls. -/
section SH0
variable {op wt ls lk : Int → Int}
end SH0
/-- what the first heap is -/
def fH (h : vH) : Prop := (∀ (k : Nat) (q i : Int) (c : Nat) (cc : cC), q = 3 + (c : Int) → (PLL 3)[c]? = some cc → h k q i = cc k i) ∧
  (∀ (k : Nat) (q i : Int) (c : Nat) (cc : cC), q = 282 + (c : Int) → (ModelL 282)[c]? = some cc → ¬ (k = 2 ∧ q = 310) → h k q i = cc k i) ∧ (h 0 1 0 = 10 ∧ h 1 1 0 = 0) ∧ h 3 0 0 = 282 ∧ h 2 310 0 = 24 ∧ h 2 310 1 = 0 ∧ h 2 310 2 = 0 ∧ h 2 310 3 = 0
section FST
variable {h : vH} {p P : Int}
theorem fp (F : fH h) {k : Nat} {q i v : Int} {c : Nat} {cc : cC} (hq : q = 3 + (c : Int)) (hc : (PLL 3)[c]? = some cc) (hv : cc k i = v) : h k q i = v := (F.1 k q i c cc hq hc).trans hv
theorem fr (R : ∀ (k : Nat) (q i : Int) (c : Nat) (cc : cC), q = 282 + (c : Int) → (ModelL 282)[c]? = some cc → ¬ (k = 2 ∧ q = 310) → h k q i = cc k i) {k : Nat} {q i v : Int} (c : Nat) {cc : cC} (hq : q = 282 + (c : Int)) (hc : (ModelL 282)[c]? = some cc) (n : ¬ (k = 2 ∧ q = 310)) (hv : cc k i = v) : h k q i = v := (R k q i c cc hq hc n).trans hv
end FST

