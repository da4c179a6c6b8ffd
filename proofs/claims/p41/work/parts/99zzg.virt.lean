/-! what a virtual text is, on both sides -/
theorem bt_5 (b : BitVec 64) (n : Nat) (hn : n ≤ 56) : (b.sshiftRight n) &&& 255#64 = (b >>> n) &&& 255#64 := by
  apply BitVec.eq_of_getLsbD_eq
  intro i hi
  by_cases h8 : i < 8
  · simp only [BitVec.getLsbD_and, BitVec.getLsbD_sshiftRight, BitVec.getLsbD_ushiftRight]
    have a1 : n + i < 64 := by omega
    have a3 : ¬ 64 ≤ i := by omega
    simp [a1, a3]
  · simp only [BitVec.getLsbD_and]
    have q1 : (255#64).getLsbD i = false := by
      have : ∀ j, j < 64 → 8 ≤ j → (255#64).getLsbD j = false := by decide
      exact this i hi (by omega)
    simp [q1]
/-- a long, as a number -/
def vN (z : Int) (i : Nat) : Nat := (vi64 z).toBitVec.toNat / 2 ^ (8 * i)
theorem vN_8 (z : Int) : vN z 8 = 0 := by
  unfold vN
  have := (vi64 z).toBitVec.isLt
  exact Nat.div_eq_of_lt this
theorem vN_s (z : Int) (i : Nat) : vN z (i + 1) = vN z i / 256 := by
  unfold vN
  rw [Nat.div_div_eq_div_mul, show 8 * (i + 1) = 8 * i + 8 by omega, Nat.pow_add]
theorem vsg_B (z : Int) (k : Nat) (hk : k ≤ 56) (e1 : blshr z k = ((vi64 z).toBitVec.sshiftRight k).toInt) : vsg z k = (((vi64 z).toBitVec.toNat / 2 ^ k % 256 : Nat) : Int) := by
  unfold vsg bland
  rw [e1]
  have f1 : vi64 (((vi64 z).toBitVec.sshiftRight k).toInt) = Int64.ofBitVec ((vi64 z).toBitVec.sshiftRight k) := Int64.ofInt_toInt (Int64.ofBitVec _)
  have f2 : (vi64 (((vi64 z).toBitVec.sshiftRight k).toInt) &&& vi64 255).toInt = (((vi64 z).toBitVec.sshiftRight k) &&& 255#64).toInt := by rw [f1]; rfl
  rw [f2, bt_w, bt_5 _ k hk]
  have h : (((vi64 z).toBitVec >>> k) &&& 255#64).toNat = (vi64 z).toBitVec.toNat / 2 ^ k % 256 := by
    rw [BitVec.toNat_and, BitVec.toNat_ushiftRight, Nat.shiftRight_eq_div_pow]
    exact Nat.and_two_pow_sub_one_eq_mod _ 8
  rw [BitVec.toInt_eq_toNat_of_lt (by omega), h]
theorem vsg_N (z : Int) (i : Nat) (h : i < 8) : vsg z (8 * (i : Int)) = ((vN z i % 256 : Nat) : Int) := by
  unfold vN
  rcases (show i = 0 ∨ i = 1 ∨ i = 2 ∨ i = 3 ∨ i = 4 ∨ i = 5 ∨ i = 6 ∨ i = 7 by omega) with e | e | e | e | e | e | e | e <;> subst e
  · exact vsg_B z 0 (by decide) rfl
  · exact vsg_B z 8 (by decide) rfl
  · exact vsg_B z 16 (by decide) rfl
  · exact vsg_B z 24 (by decide) rfl
  · exact vsg_B z 32 (by decide) rfl
  · exact vsg_B z 40 (by decide) rfl
  · exact vsg_B z 48 (by decide) rfl
  · exact vsg_B z 56 (by decide) rfl
/-- what is left of a long behind i signs -/
def lfN (z : Int) (i : Nat) : Int := ((vi64 z).toBitVec >>> (8 * i)).toInt
theorem lfN_s (z : Int) (i : Nat) : blushr (lfN z i) 8 = lfN z (i + 1) := by
  have f1 : vi64 (lfN z i) = Int64.ofBitVec ((vi64 z).toBitVec >>> (8 * i)) := Int64.ofInt_toInt (Int64.ofBitVec _)
  have e2 : blushr (lfN z i) 8 = ((vi64 (lfN z i)).toBitVec >>> 8).toInt := rfl
  rw [e2, f1]
  unfold lfN
  rw [show 8 * (i + 1) = 8 * i + 8 by omega, BitVec.shiftRight_add]
  rfl
theorem lfN_b (z : Int) (i : Nat) (h : i < 8) : bland (lfN z i) 255 = vsg z (8 * (i : Int)) := by
  rw [vsg_N z i h]
  have f1 : vi64 (lfN z i) = Int64.ofBitVec ((vi64 z).toBitVec >>> (8 * i)) := Int64.ofInt_toInt (Int64.ofBitVec _)
  have f2 : bland (lfN z i) 255 = (((vi64 z).toBitVec >>> (8 * i)) &&& 255#64).toInt := by
    unfold bland
    rw [f1]
    rfl
  have hh : (((vi64 z).toBitVec >>> (8 * i)) &&& 255#64).toNat = vN z i % 256 := by
    rw [BitVec.toNat_and, BitVec.toNat_ushiftRight, Nat.shiftRight_eq_div_pow]
    exact Nat.and_two_pow_sub_one_eq_mod _ 8
  rw [f2, BitVec.toInt_eq_toNat_of_lt (by omega), hh]
theorem lfN_0 (z : Int) (i : Nat) : lfN z i = 0 ↔ vN z i = 0 := by
  unfold lfN
  have e : ((vi64 z).toBitVec >>> (8 * i)).toNat = vN z i := by
    rw [BitVec.toNat_ushiftRight, Nat.shiftRight_eq_div_pow]
    rfl
  rw [← e]
  constructor
  · intro w
    have : (vi64 z).toBitVec >>> (8 * i) = 0#64 := BitVec.eq_of_toInt_eq (w.trans rfl)
    rw [this]
    rfl
  · intro w
    have : (vi64 z).toBitVec >>> (8 * i) = 0#64 := BitVec.eq_of_toNat_eq (w.trans rfl)
    rw [this]
    rfl
theorem lfN_z (z : Int) (h : -9223372036854775808 ≤ z ∧ z < 9223372036854775808) : lfN z 0 = z := by
  unfold lfN
  have e : (vi64 z).toBitVec >>> (8 * 0) = (vi64 z).toBitVec := by
    apply BitVec.eq_of_toNat_eq
    rw [BitVec.toNat_ushiftRight]
    rfl
  rw [e]
  exact Int64.toInt_ofInt_of_le h.1 h.2
theorem blcmp_0 (x : Int) : blcmp x 0 = 0 ↔ x = 0 := by
  unfold blcmp
  by_cases y : (0 : Int) < x
  · rw [if_pos y]; exact ⟨fun w => absurd w (by decide), fun w => by omega⟩
  · rw [if_neg y]
    by_cases v : x = 0
    · rw [if_pos v]; exact ⟨fun _ => v, fun _ => rfl⟩
    · rw [if_neg v]; exact ⟨fun w => absurd w (by decide), fun w => absurd w v⟩
theorem blcmp_lt (x y : Int) : blcmp x y < 0 ↔ x < y := by
  unfold blcmp
  by_cases u : y < x
  · rw [if_pos u]; omega
  · rw [if_neg u]
    by_cases v : x = y
    · rw [if_pos v]; omega
    · rw [if_neg v]; omega
theorem blcmp_le (x y : Int) : blcmp x y ≤ 0 ↔ x ≤ y := by
  unfold blcmp
  by_cases u : y < x
  · rw [if_pos u]; omega
  · rw [if_neg u]
    by_cases v : x = y
    · rw [if_pos v]; omega
    · rw [if_neg v]; omega
/-- nothing is left where all signs are 0 -/
theorem vN_all (z : Int) : ∀ (f i : Nat), i + f = 8 → (∀ j : Nat, i ≤ j → j < 8 → vsg z (8 * (j : Int)) = 0) → vN z i = 0
  | 0, i, h, _ => by
    rw [show i = 8 by omega]
    exact vN_8 z
  | f + 1, i, h, e => by
    have ih := vN_all z f (i + 1) (by omega) (fun j u v => e j (by omega) v)
    rw [vN_s] at ih
    have e1 := e i (Nat.le_refl _) (by omega)
    rw [vsg_N z i (by omega)] at e1
    omega
theorem vN_ge (z : Int) (i : Nat) (e : vN z i = 0) : ∀ (k : Nat), vN z (i + k) = 0
  | 0 => e
  | k + 1 => by
    rw [← Nat.add_assoc, vN_s, vN_ge z i e k]
section VIR
variable {h : vH} {z : Int}
theorem C_isText (hz : -9223372036854775808 ≤ z ∧ z < 9223372036854775808) : vcl mX11_isText [(2, z)] h = some (.inl (some (0, b2i (isVt z))), h) := by
  have z0 : ∀ i : Nat, i < 8 → vN z i = 0 → ∀ j : Nat, i ≤ j → j < 8 → vsg z (8 * (j : Int)) = 0 := fun i _ e j u v => by
    have := vN_ge z i e (j - i)
    rw [show i + (j - i) = j by omega] at this
    rw [vsg_N z j v, this]
    rfl
  have nz : ∀ i : Nat, 0 < i → (∀ j : Nat, j < i → 32 ≤ vsg z (8 * (j : Int)) ∧ vsg z (8 * (j : Int)) ≤ 125) → ¬ z = 0 := fun i hi e w => by
    have e0 := e 0 hi
    have l0 := (lfN_0 z 0).mp ((lfN_z z hz).trans w)
    have := z0 0 (by decide) l0 0 (Nat.le_refl _) (by decide)
    omega
  have loop : ∀ (f i : Nat) (v5 v6 : vv), i + f = 8 → (∀ j : Nat, j < i → 32 ≤ vsg z (8 * (j : Int)) ∧ vsg z (8 * (j : Int)) ≤ 125) → vrun mX11_isText 5 [(2, z), (8, 0), (2, lfN z i), (8, 0), (0, (i : Int)), v5, v6] [] h = some (.inl (some (0, b2i (isVt z))), h) := by
    intro f
    induction f with
    | zero =>
      intro i v5 v6 hi hv
      have ei : i = 8 := by omega
      subst ei
      have n0 := nz 8 (by decide) hv
      rw [rX11_isText_5 (by omega), if_pos (by decide), if_pos (fun w => n0 ((blcmp_0 z).mp w)), b2i_t]
      exact ⟨8, by decide, by decide, fun j u v => by have := hv j.toNat (by omega); rw [show ((j.toNat : Nat) : Int) = j by omega] at this; exact this, fun j u v => by omega⟩
    | succ f ih =>
      intro i v5 v6 hi hv
      have li := lfN_b z i (by omega)
      rw [rX11_isText_5 (by omega), if_neg (by omega)]
      by_cases c : lfN z i = 0
      · rw [if_pos ((blcmp_0 _).mpr c)]
        have zz := z0 i (by omega) ((lfN_0 z i).mp c)
        by_cases y : i = 0
        · subst y
          have ez : z = 0 := (lfN_z z hz).symm.trans c
          rw [if_neg (fun w => w ((blcmp_0 z).mpr ez)), b2i_f]
          rintro ⟨m, m1, m2, m3, m4⟩
          have a1 := m3 0 (by decide) (by omega)
          have a2 := zz 0 (by decide) (by decide)
          rw [show (8 * ((0 : Nat) : Int)) = 8 * 0 by decide] at a2
          omega
        · have n0 := nz i (by omega) hv
          rw [if_pos (fun w => n0 ((blcmp_0 z).mp w)), b2i_t]
          exact ⟨i, by omega, by omega, fun j u v => by have := hv j.toNat (by omega); rw [show ((j.toNat : Nat) : Int) = j by omega] at this; exact this, fun j u v => by have := zz j.toNat (by omega) (by omega); rw [show ((j.toNat : Nat) : Int) = j by omega] at this; exact this⟩
      · rw [if_neg (fun w => c ((blcmp_0 _).mp w)), li]
        have nv : ¬ (32 ≤ vsg z (8 * (i : Int)) ∧ vsg z (8 * (i : Int)) ≤ 125) → ¬ isVt z := by
          rintro w ⟨m, m1, m2, m3, m4⟩
          by_cases y : (i : Int) < m
          · exact w (m3 i (by omega) y)
          · exact c ((lfN_0 z i).mpr (vN_all z (8 - i) i (by omega) (fun j u v => m4 j (by omega) (by omega))))
        by_cases c1 : vsg z (8 * (i : Int)) < 32
        · rw [if_pos ((blcmp_lt _ _).mpr c1), b2i_f (nv (by omega))]
        · rw [if_neg (fun w => c1 ((blcmp_lt _ _).mp w))]
          by_cases c2 : vsg z (8 * (i : Int)) ≤ 125
          · rw [if_pos ((blcmp_le _ _).mpr c2), lfN_s]
            have := ih (i + 1) (2, vsg z (8 * (i : Int))) (8, 0) (by omega) (fun j hj => by
              by_cases y : j = i
              · rw [y]; omega
              · exact hv j (by omega))
            exact this
          · rw [if_neg (fun w => c2 ((blcmp_le _ _).mp w)), b2i_f (nv (by omega))]
  have e := loop 8 0 (9, 0) (9, 0) (by decide) (fun j hj => absurd hj (Nat.not_lt_zero j))
  rw [lfN_z z hz] at e
  exact (show _ = _ from rX11_isText_0).trans e
end VIR

