/-! setMark -/
def iM (a : vH) : Prop := ∀ l, 0 ≤ l → l < a 1504 282 0 → a 2 285 l = 0 ∨ a 2 285 l = 1
section SMK
variable {h h1 a b : vH} {p P l v : Int}
end SMK

