/-! what a picture keeps of a cluster, in one number -/
section BIT
variable {h a b : vH} {p l x r k c : Int}
theorem vi_n {n : Nat} (h : n < 2147483648) : (vi32 (n : Int)).toBitVec.toNat = n := by
  show (BitVec.ofInt 32 (n : Int)).toNat = n
  rw [BitVec.toNat_ofInt]
  omega
theorem ti_n {x : BitVec 32} (h : x.toNat < 2147483648) : x.toInt = (x.toNat : Int) := BitVec.toInt_eq_toNat_of_lt (by omega)
theorem bishl_n {b m : Nat} (e : ((vi32 (m : Int) &&& 31).toBitVec.smod 32).toNat = m) (h : b * 2 ^ m < 2147483648) (hb : b < 2147483648) : bishl (b : Int) (m : Int) = ((b * 2 ^ m : Nat) : Int) := by
  have q : (vi32 (b : Int) <<< (vi32 (m : Int) &&& 31)).toBitVec.toNat = b * 2 ^ m := by
    rw [Int32.toBitVec_shiftLeft, BitVec.shiftLeft_eq', BitVec.toNat_shiftLeft, e, vi_n hb, Nat.shiftLeft_eq]
    exact Nat.mod_eq_of_lt (by omega)
  show (vi32 (b : Int) <<< (vi32 (m : Int) &&& 31)).toBitVec.toInt = _
  rw [ti_n (by rw [q]; exact h), q]
theorem bior_n {x b m : Nat} (hx : x < 2 ^ m) (h : x + b * 2 ^ m < 2147483648) : bior (x : Int) ((b * 2 ^ m : Nat) : Int) = ((x + b * 2 ^ m : Nat) : Int) := by
  have q : (vi32 (x : Int) ||| vi32 ((b * 2 ^ m : Nat) : Int)).toBitVec.toNat = x + b * 2 ^ m := by
    rw [Int32.toBitVec_or, BitVec.toNat_or, vi_n (by omega), vi_n (by omega), Nat.or_comm, Nat.mul_comm b, ← Nat.two_pow_add_eq_or_of_lt hx, Nat.add_comm]
  show (vi32 (x : Int) ||| vi32 ((b * 2 ^ m : Nat) : Int)).toBitVec.toInt = _
  rw [ti_n (by rw [q]; exact h), q]
theorem pack_n {t0 t1 t2 t3 t4 : Int} (h0 : 0 ≤ t0 ∧ t0 ≤ 127) (h1 : 0 ≤ t1 ∧ t1 ≤ 127) (h2 : 0 ≤ t2 ∧ t2 ≤ 40) (h3 : 0 ≤ t3 ∧ t3 ≤ 4) (h4 : 0 ≤ t4 ∧ t4 ≤ 136) : bior (bior (bior t0 (bishl t1 7)) (bishl (bior t2 (bishl t3 6)) 14)) (bishl t4 23) = t0 + 128 * t1 + 16384 * (t2 + 64 * t3 + 512 * t4) := by
  obtain ⟨n0, e0⟩ := Int.eq_ofNat_of_zero_le h0.1
  obtain ⟨n1, e1⟩ := Int.eq_ofNat_of_zero_le h1.1
  obtain ⟨n2, e2⟩ := Int.eq_ofNat_of_zero_le h2.1
  obtain ⟨n3, e3⟩ := Int.eq_ofNat_of_zero_le h3.1
  obtain ⟨n4, e4⟩ := Int.eq_ofNat_of_zero_le h4.1
  subst e0; subst e1; subst e2; subst e3; subst e4
  have s1 := bishl_n (b := n1) (m := 7) (by decide) (by omega) (by omega)
  have s3 := bishl_n (b := n3) (m := 6) (by decide) (by omega) (by omega)
  have o1 := bior_n (x := n0) (b := n1) (m := 7) (by omega) (by omega)
  have o2 := bior_n (x := n2) (b := n3) (m := 6) (by omega) (by omega)
  have s5 := bishl_n (b := n2 + n3 * 2 ^ 6) (m := 14) (by decide) (by omega) (by omega)
  have o3 := bior_n (x := n0 + n1 * 2 ^ 7) (b := n2 + n3 * 2 ^ 6) (m := 14) (by omega) (by omega)
  have s6 := bishl_n (b := n4) (m := 23) (by decide) (by omega) (by omega)
  have o4 := bior_n (x := n0 + n1 * 2 ^ 7 + (n2 + n3 * 2 ^ 6) * 2 ^ 14) (b := n4) (m := 23) (by omega) (by omega)
  rw [show ((7 : Nat) : Int) = 7 from rfl] at s1
  rw [show ((6 : Nat) : Int) = 6 from rfl] at s3
  rw [show ((14 : Nat) : Int) = 14 from rfl] at s5
  rw [show ((23 : Nat) : Int) = 23 from rfl] at s6
  rw [s1, s3, o1, o2, s5, o3, s6, o4]
  omega
end BIT

