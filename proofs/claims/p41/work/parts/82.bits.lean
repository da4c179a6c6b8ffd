theorem bt_0 (b : BitVec 64) (n : Nat) (hn : n ≤ 56) : (b.sshiftRight n) &&& 255#64 = (((b >>> n).setWidth 32) &&& 255#32).setWidth 64 := by
  apply BitVec.eq_of_getLsbD_eq
  intro i hi
  by_cases h8 : i < 8
  · simp only [BitVec.getLsbD_and, BitVec.getLsbD_sshiftRight, BitVec.getLsbD_setWidth, BitVec.getLsbD_ushiftRight]
    have a1 : n + i < 64 := by omega
    have a2 : i < 32 := by omega
    have a3 : ¬ 64 ≤ i := by omega
    have q : ∀ j, j < 8 → (255#64).getLsbD j = true ∧ (255#32).getLsbD j = true := by decide
    rw [(q i h8).1, (q i h8).2]
    simp [a1, a2, a3, hi]
  · simp only [BitVec.getLsbD_and, BitVec.getLsbD_setWidth]
    have q1 : (255#64).getLsbD i = false := by
      have : ∀ j, j < 64 → 8 ≤ j → (255#64).getLsbD j = false := by decide
      exact this i hi (by omega)
    have q2 : (255#32).getLsbD i = false := by
      by_cases h : i < 32
      · have : ∀ j, j < 32 → 8 ≤ j → (255#32).getLsbD j = false := by decide
        exact this i h (by omega)
      · exact BitVec.getLsbD_of_ge _ _ (by omega)
    simp [q1, q2]
theorem bt_1 (c : BitVec 32) : ((c &&& 255#32).setWidth 64).toInt = (c &&& 255#32).toInt := by
  have h : (c &&& 255#32).toNat < 256 := by
    rw [BitVec.toNat_and]
    exact Nat.lt_of_le_of_lt Nat.and_le_right (by decide)
  rw [BitVec.toInt_eq_toNat_of_lt, BitVec.toInt_eq_toNat_of_lt, BitVec.toNat_setWidth, Nat.mod_eq_of_lt]
  · omega
  · omega
  · rw [BitVec.toNat_setWidth, Nat.mod_eq_of_lt] <;> omega
theorem bt_2 (b : BitVec 64) (n : Nat) (hn : n ≤ 56) : ((b.sshiftRight n) &&& 255#64).toInt = (((b >>> n).setWidth 32) &&& 255#32).toInt := by rw [bt_0 b n hn, bt_1]
theorem bt_w (y : BitVec 64) : w32 ((y &&& 255#64).toInt) = (y &&& 255#64).toInt := by
  have h : (y &&& 255#64).toNat < 256 := by
    rw [BitVec.toNat_and]
    exact Nat.lt_of_le_of_lt Nat.and_le_right (by decide)
  rw [BitVec.toInt_eq_toNat_of_lt (by omega)]
  exact w32_in (by omega) (by omega)
theorem bt_4 (b : BitVec 64) : BitVec.ofInt 32 b.toInt = b.setWidth 32 := by
  rw [← BitVec.signExtend_eq_setWidth_of_le b (by decide : 32 ≤ 64)]
  rfl
theorem vsg_q (z : Int) (k : Nat) (hk : k ≤ 56) (e1 : blshr z k = ((vi64 z).toBitVec.sshiftRight k).toInt) (e2 : blushr z k = ((vi64 z).toBitVec >>> k).toInt) : biand (w32 (blushr z k)) 255 = vsg z k := by
  unfold vsg biand bland
  rw [e1, e2, vi32_w]
  have f1 : vi64 (((vi64 z).toBitVec.sshiftRight k).toInt) = Int64.ofBitVec ((vi64 z).toBitVec.sshiftRight k) := Int64.ofInt_toInt (Int64.ofBitVec _)
  have f2 : (vi64 (((vi64 z).toBitVec.sshiftRight k).toInt) &&& vi64 255).toInt = (((vi64 z).toBitVec.sshiftRight k) &&& 255#64).toInt := by rw [f1]; rfl
  have f3 : (Int32.ofInt (((vi64 z).toBitVec >>> k).toInt)).toBitVec = ((vi64 z).toBitVec >>> k).setWidth 32 := bt_4 _
  have f4 : (Int32.ofInt (((vi64 z).toBitVec >>> k).toInt) &&& vi32 255).toInt = ((((vi64 z).toBitVec >>> k).setWidth 32) &&& 255#32).toInt := by
    rw [← f3]; rfl
  rw [f2, f4, bt_w, bt_2 _ k hk]
theorem vsg_all (z : Int) (i : Int) (h : 0 ≤ i ∧ i < 8) : biand (w32 (blushr z (i * 8))) 255 = vsg z (8 * i) := by
  rcases (show i = 0 ∨ i = 1 ∨ i = 2 ∨ i = 3 ∨ i = 4 ∨ i = 5 ∨ i = 6 ∨ i = 7 by omega) with e | e | e | e | e | e | e | e <;> subst e
  · exact vsg_q z 0 (by decide) rfl rfl
  · exact vsg_q z 8 (by decide) rfl rfl
  · exact vsg_q z 16 (by decide) rfl rfl
  · exact vsg_q z 24 (by decide) rfl rfl
  · exact vsg_q z 32 (by decide) rfl rfl
  · exact vsg_q z 40 (by decide) rfl rfl
  · exact vsg_q z 48 (by decide) rfl rfl
  · exact vsg_q z 56 (by decide) rfl rfl

