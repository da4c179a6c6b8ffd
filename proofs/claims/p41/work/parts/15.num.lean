def c32 (z : Int) : Prop := -2147483648 ≤ z ∧ z < 2147483648
def c64 (z : Int) : Prop := -9223372036854775808 ≤ z ∧ z < 9223372036854775808
theorem w32_c (z : Int) : c32 (w32 z) := by
  unfold c32 w32
  have h1 := Int.le_bmod (x := z) (m := 4294967296) (by omega)
  have h2 := Int.bmod_lt (x := z) (m := 4294967296) (by omega)
  omega
theorem w32_id {z : Int} (h : c32 z) : w32 z = z := by
  unfold w32
  unfold c32 at h
  exact Int.bmod_eq_of_le (by omega) (by omega)
theorem vi32_toInt {z : Int} (h : c32 z) : (vi32 z).toInt = z := Int32.toInt_ofInt_of_le (by unfold c32 at h; omega) (by unfold c32 at h; omega)
theorem vi32_w (z : Int) : vi32 (w32 z) = Int32.ofInt z := by
  apply Int32.toInt_inj.mp
  rw [vi32_toInt (w32_c z), Int32.toInt_ofInt]
  rfl
theorem vi32_of (x : Int32) : vi32 x.toInt = x := Int32.ofInt_toInt x
theorem i32_c (x : Int32) : c32 x.toInt := ⟨Int32.le_toInt x, Int32.toInt_lt x⟩
theorem vi32_lt {a b : Int} (ha : c32 a) (hb : c32 b) : vi32 a < vi32 b ↔ a < b := by
  rw [Int32.lt_iff_toInt_lt, vi32_toInt ha, vi32_toInt hb]
theorem vi32_le {a b : Int} (ha : c32 a) (hb : c32 b) : vi32 a ≤ vi32 b ↔ a ≤ b := by
  rw [Int32.le_iff_toInt_le, vi32_toInt ha, vi32_toInt hb]
theorem vi32_eq {a b : Int} (ha : c32 a) (hb : c32 b) : vi32 a = vi32 b ↔ a = b := by
  rw [← Int32.toInt_inj, vi32_toInt ha, vi32_toInt hb]
theorem c32_0 : c32 0 := ⟨by decide, by decide⟩
theorem vi32_z : vi32 0 = 0 := rfl
theorem vi32_add (a b : Int) : vi32 a + vi32 b = vi32 (w32 (a + b)) := by rw [vi32_w, Int32.ofInt_add]; rfl
theorem vi32_sub (a b : Int) : vi32 a - vi32 b = vi32 (w32 (a - b)) := by rw [vi32_w, Int32.ofInt_sub]; rfl
theorem vi32_mul (a b : Int) : vi32 a * vi32 b = vi32 (w32 (a * b)) := by rw [vi32_w, Int32.ofInt_mul]; rfl
theorem vi32_neg (a : Int) : -vi32 a = vi32 (w32 (-a)) := by rw [vi32_w, Int32.ofInt_neg]; rfl
theorem vi32_div {a b : Int} (ha : c32 a) (hb : c32 b) : vi32 a / vi32 b = vi32 (w32 (a.tdiv b)) := by
  apply Int32.toInt_inj.mp
  rw [vi32_toInt (w32_c _), Int32.toInt_div, vi32_toInt ha, vi32_toInt hb]
  rfl
theorem c32_tmod {a b : Int} (ha : c32 a) (hb : c32 b) : c32 (a.tmod b) := by
  have h := Int32.toInt_mod (vi32 a) (vi32 b)
  rw [vi32_toInt ha, vi32_toInt hb] at h
  rw [← h]
  exact i32_c _
theorem vi32_rem {a b : Int} (ha : c32 a) (hb : c32 b) : vi32 a - vi32 a / vi32 b * vi32 b = vi32 (a.tmod b) := by
  apply Int32.toInt_inj.mp
  rw [rem_toInt, vi32_toInt (c32_tmod ha hb), vi32_toInt ha, vi32_toInt hb]
theorem vi32_8 {n : Int} (h : -128 ≤ n ∧ n < 128) : (Int8.ofInt n).toInt32 = vi32 n := by
  apply Int32.toInt_inj.mp
  rw [vi32_toInt ⟨by omega, by omega⟩, Int8.toInt_toInt32, Int8.toInt_ofInt_of_le (by omega) (by omega)]
theorem vi32_16 {n : Int} (h : -32768 ≤ n ∧ n < 32768) : (Int16.ofInt n).toInt32 = vi32 n := by
  apply Int32.toInt_inj.mp
  rw [vi32_toInt ⟨by omega, by omega⟩, Int16.toInt_toInt32, Int16.toInt_ofInt_of_le (by omega) (by omega)]
theorem i64_c (x : Int64) : c64 x.toInt := ⟨Int64.le_toInt x, Int64.toInt_lt x⟩
theorem vi64_toInt {z : Int} (h : c64 z) : (vi64 z).toInt = z := Int64.toInt_ofInt_of_le (by unfold c64 at h; omega) (by unfold c64 at h; omega)
theorem vi64_of (x : Int64) : vi64 x.toInt = x := Int64.ofInt_toInt x
theorem vi64_i {a : Int} (h : c32 a) : (vi32 a).toInt64 = vi64 a := by
  apply Int64.toInt_inj.mp
  rw [Int32.toInt_toInt64, vi32_toInt h, vi64_toInt (by unfold c32 at h; unfold c64; omega)]
theorem vi32_l {a : Int} (h : c64 a) : (vi64 a).toInt32 = vi32 (w32 a) := by
  apply Int32.toInt_inj.mp
  rw [Int64.toInt_toInt32, vi64_toInt h, vi32_toInt (w32_c _)]
  rfl
theorem vi64_cmp {a b : Int} (ha : c64 a) (hb : c64 b) : lg_cmp (vi64 a) (vi64 b) = vi32 (if b < a then 1 else if a = b then 0 else -1) := by
  have e1 : (vi64 a > vi64 b) ↔ b < a := by
    show vi64 b < vi64 a ↔ _
    rw [Int64.lt_iff_toInt_lt, vi64_toInt ha, vi64_toInt hb]
  have e2 : vi64 a = vi64 b ↔ a = b := by rw [← Int64.toInt_inj, vi64_toInt ha, vi64_toInt hb]
  unfold lg_cmp
  by_cases h1 : b < a
  · rw [if_pos (e1.mpr h1), if_pos h1]; rfl
  · rw [if_neg (fun q => h1 (e1.mp q)), if_neg h1]
    by_cases h2 : a = b
    · rw [if_pos (e2.mpr h2), if_pos h2]; rfl
    · rw [if_neg (fun q => h2 (e2.mp q)), if_neg h2]; rfl
theorem vi32_clamp {z : Int} (h : c32 z) : (vi32 z).toNatClampNeg = z.toNat := by
  show (vi32 z).toInt.toNat = z.toNat
  rw [vi32_toInt h]
theorem vi32_in {z : Int} {n : Nat} (h : c32 z) (h1 : 0 ≤ z) (h2 : z < n) : vp_in (vi32 z) n := by
  unfold vp_in
  rw [show (0 : Int32) = vi32 0 from rfl, vi32_lt h c32_0, vi32_clamp h]
  omega
theorem nat_c32 {z : Int} (h : 0 ≤ z) (h2 : z < 2147483648) : c32 z := ⟨by omega, h2⟩
theorem vi32_nat {z : Int} (h : 0 ≤ z) : Int32.ofNat z.toNat = vi32 z := by
  have e : z = (z.toNat : Int) := (Int.toNat_of_nonneg h).symm
  show Int32.ofNat z.toNat = Int32.ofInt z
  conv => rhs; rw [e]
  exact (Int32.ofInt_eq_ofNat (n := z.toNat)).symm
