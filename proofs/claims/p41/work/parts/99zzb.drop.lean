/-! show and dropVirtual -/
section DRP
variable {h h2 a b : vH} {p q P Q X l x s f t j st r l0 x0 n d : Int}
theorem nL_6 (g : iG a) (hp : 0 ≤ p ∧ p < 4) (ht : 0 ≤ t ∧ t < 3) : 0 ≤ nL a p t ∧ nL a p t ≤ 6 := by
  obtain ⟨k1, k2, k3⟩ := iG_n6 g p hp.1 hp.2
  rcases (show t = 0 ∨ t = 1 ∨ t = 2 by omega) with z | z | z <;> subst z
  · rw [nL_s]; exact k1
  · rw [nL_v]; exact k2
  · rw [nL_f]; exact k3
theorem iA_tk {k : Int} (x : iA a) : iA (th k a) := ⟨iG_tk x.1, iH_th x.2.1, x.2.2.1, x.2.2.2⟩
end DRP

