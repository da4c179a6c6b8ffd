/-! what the reference tells of a line that is laid -/
section MQ
variable {h : vH} {p l : Int} {L : List Clu} {W d : Int} {R : Nat}
theorem fpS_in {z : Int} (hB : ∀ c ∈ L, cluB c) (hz : 0 ≤ z ∧ z ≤ 80) : ∀ (f : Nat) (k : Int), 0 ≤ k → k + f ≤ L.length → 0 ≤ fpS L z f k ∧ fpS L z f k ≤ 80
  | 0, _, _, _ => hz
  | f + 1, k, h0, hk => by
    have b := hB _ (getD_mem (L := L) h0 (by omega))
    have b1 : -1 ≤ bg L k ∧ bg L k < 80 := ⟨b.2.2.1, b.2.2.2.1⟩
    unfold fpS
    split
    · exact fpS_in hB hz f (k + 1) (by omega) (by omega)
    · omega
end MQ

