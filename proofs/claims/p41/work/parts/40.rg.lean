theorem vup_k {h : vH} {k k' : Nat} {r r' i i' v : Int} (e : k' ≠ k) : vup h k r i v k' r' i' = h k' r' i' := if_neg (fun z => e z.1)
theorem vup_r {h : vH} {k k' : Nat} {r r' i i' v : Int} (e : r' ≠ r) : vup h k r i v k' r' i' = h k' r' i' := if_neg (fun z => e z.2.1)
theorem vup_i {h : vH} {k k' : Nat} {r r' i i' v : Int} (e : i' ≠ i) : vup h k r i v k' r' i' = h k' r' i' := if_neg (fun z => e z.2.2)
theorem vup_s {h : vH} {k : Nat} {r i v : Int} : vup h k r i v k r i = v := if_pos ⟨rfl, rfl, rfl⟩
theorem vcp_k {h : vH} {a sp b dp n : Int} {k : Nat} {r i : Int} (e : k ≠ 2) : vcp h a sp b dp n k r i = h k r i := if_neg (fun z => e z.1)
theorem vcp_r {h : vH} {a sp b dp n : Int} {k : Nat} {r i : Int} (e : r ≠ b) : vcp h a sp b dp n k r i = h k r i := if_neg (fun z => e z.2.1)
theorem ite_rd {c : Prop} {dc : Decidable c} {A B : vH} {k : Nat} {r i v : Int} (a : A k r i = v) (b : B k r i = v) : (if c then A else B) k r i = v := by
  split
  · exact a
  · exact b
theorem itec {α : Type} {c : Prop} {dc : Decidable c} {X Y A B : α} (a : c → X = A) (b : ¬ c → Y = B) : (if c then X else Y) = if c then A else B := by
  by_cases h : c
  · rw [if_pos h, if_pos h]; exact a h
  · rw [if_neg h, if_neg h]; exact b h
theorem itex {α : Type} {c : Prop} {dc : Decidable c} {X A B : α} (a : c → X = A) (b : ¬ c → X = B) : X = if c then A else B := by
  by_cases h : c
  · rw [if_pos h]; exact a h
  · rw [if_neg h]; exact b h
theorem ret_ite {c : Prop} {dc : Decidable c} {k : Nat} {a b : Int} {h : vH} : (if c then some ((Sum.inl (some (k, a)) : vR), h) else some (.inl (some (k, b)), h)) = some (.inl (some (k, if c then a else b)), h) := by
  split <;> rfl
theorem b01 {c : Prop} {dc : Decidable c} : (if c then (1 : Int) else 0) = 0 ∨ (if c then (1 : Int) else 0) = 1 := by
  split
  · exact Or.inr rfl
  · exact Or.inl rfl
theorem w32_in {z : Int} (h1 : -2147483648 ≤ z) (h2 : z < 2147483648) : w32 z = z := by
  unfold w32
  rw [Int.bmod_eq_of_le] <;> omega
section RG
variable {m : vM} {pc : Nat} {L S : List vv} {h : vH}
theorem rg_iadd {a b : Int} (d : decode (vmB m) pc = .ok (.iadd, 1)) (h1 : -2147483648 ≤ a + b) (h2 : a + b < 2147483648) : vrun m pc L ((0, b) :: (0, a) :: S) h = vrun m (pc + 1) L ((0, a + b) :: S) h := by
  have e := rn_iadd (L := L) (S := S) (h := h) (a := a) (b := b) d
  rw [w32_in h1 h2] at e
  exact e
theorem rg_isub {a b : Int} (d : decode (vmB m) pc = .ok (.isub, 1)) (h1 : -2147483648 ≤ a - b) (h2 : a - b < 2147483648) : vrun m pc L ((0, b) :: (0, a) :: S) h = vrun m (pc + 1) L ((0, a - b) :: S) h := by
  have e := rn_isub (L := L) (S := S) (h := h) (a := a) (b := b) d
  rw [w32_in h1 h2] at e
  exact e
theorem rg_imul {a b : Int} (d : decode (vmB m) pc = .ok (.imul, 1)) (h1 : -2147483648 ≤ a * b) (h2 : a * b < 2147483648) : vrun m pc L ((0, b) :: (0, a) :: S) h = vrun m (pc + 1) L ((0, a * b) :: S) h := by
  have e := rn_imul (L := L) (S := S) (h := h) (a := a) (b := b) d
  rw [w32_in h1 h2] at e
  exact e
theorem rg_ineg {a : Int} (d : decode (vmB m) pc = .ok (.ineg, 1)) (h1 : -2147483648 < a) (h2 : a ≤ 2147483647) : vrun m pc L ((0, a) :: S) h = vrun m (pc + 1) L ((0, -a) :: S) h := by
  have e := rn_ineg (L := L) (S := S) (h := h) (a := a) d
  rw [w32_in (by omega) (by omega)] at e
  exact e
theorem rg_idiv {a b : Int} (d : decode (vmB m) pc = .ok (.idiv, 1)) (hb : 0 < b) (h1 : 0 ≤ a) (h2 : a < 2147483648) : vrun m pc L ((0, b) :: (0, a) :: S) h = vrun m (pc + 1) L ((0, a / b) :: S) h := by
  have e := rn_idiv (L := L) (S := S) (h := h) (a := a) (b := b) d (by omega)
  have l1 : 0 ≤ a / b := Int.ediv_nonneg h1 (by omega)
  have l2 : a / b ≤ a := Int.ediv_le_self b h1
  rw [Int.tdiv_eq_ediv_of_nonneg h1, w32_in (by omega) (by omega)] at e
  exact e
theorem rg_irem {a b : Int} (d : decode (vmB m) pc = .ok (.irem, 1)) (hb : 0 < b) (h1 : 0 ≤ a) : vrun m pc L ((0, b) :: (0, a) :: S) h = vrun m (pc + 1) L ((0, a % b) :: S) h := by
  have e := rn_irem (L := L) (S := S) (h := h) (a := a) (b := b) d (by omega)
  rw [Int.tmod_eq_emod_of_nonneg h1] at e
  exact e
theorem rg_iinc {k : Nat} {x n : Int} {L2 : List vv} (d : decode (vmB m) pc = .ok (.iinc k n, 3)) (hx : L[k]? = some (0, x)) (hk : k < L.length) (h1 : -2147483648 ≤ x + n) (h2 : x + n < 2147483648) (hl : vset L k (0, x + n) = L2) : vrun m pc L S h = vrun m (pc + 3) L2 S h := rn_iinc d hx hk (by rw [w32_in h1 h2]; exact hl)
theorem rg_gf {k ci j t key : Nat} {b : Bool} {r v kc : Int} (d : decode (vmB m) pc = .ok (.getfield k, 3)) (hf : vfr (vmC m) k = some (ci, j, b)) (ht : vkd (vtyp ci j) = t) (hk : vfc ci j = key) (hc : 20 + (ci : Int) = kc) (hr : h 0 r 0 = kc) (hv : h key r 0 = v) : vrun m pc L ((1, r) :: S) h = vrun m (pc + 3) L ((t, v) :: S) h := by
  subst hk; subst hv
  exact rn_getfield d hf ht (hr.trans hc.symm)
theorem rg_pf {k ci j t key : Nat} {b : Bool} {r v kc : Int} (d : decode (vmB m) pc = .ok (.putfield k, 3)) (hf : vfr (vmC m) k = some (ci, j, b)) (hk : vfc ci j = key) (hc : 20 + (ci : Int) = kc) (hr : h 0 r 0 = kc) (ht : t = vkd (vtyp ci j)) (hb : vtyp ci j = FieldType.boolean → v = 0 ∨ v = 1) (hfin : vfin ci j = true → (vmY m).name = "<init>" ∧ vmC m = ci) : vrun m pc L ((t, v) :: (1, r) :: S) h = vrun m (pc + 3) L S (vup h key r 0 v) := by
  subst hk
  exact rn_putfield d hf ⟨hr.trans hc.symm, ht, hb, hfin⟩
theorem vin_in {r i n : Int} (hl : h 1 r 0 = n) (h0 : 0 ≤ i) (h1 : i < n) : vin h r i = true := by
  subst hl
  unfold vin
  rw [decide_eq_true h0, decide_eq_true h1]
  rfl
theorem rg_iaload {r i n v : Int} (d : decode (vmB m) pc = .ok (.iaload, 1)) (hr : h 0 r 0 = 1) (hl : h 1 r 0 = n) (h0 : 0 ≤ i) (h1 : i < n) (hv : h 2 r i = v) : vrun m pc L ((0, i) :: (1, r) :: S) h = vrun m (pc + 1) L ((0, v) :: S) h := by
  subst hv; exact rn_iaload d ⟨Or.inl hr, vin_in hl h0 h1⟩
theorem rg_baload {r i n v : Int} (d : decode (vmB m) pc = .ok (.baload, 1)) (hr : h 0 r 0 = 2) (hl : h 1 r 0 = n) (h0 : 0 ≤ i) (h1 : i < n) (hv : h 2 r i = v) : vrun m pc L ((0, i) :: (1, r) :: S) h = vrun m (pc + 1) L ((0, v) :: S) h := by
  subst hv; exact rn_baload d ⟨hr, vin_in hl h0 h1⟩
theorem rg_aaload {r i n v kc : Int} (d : decode (vmB m) pc = .ok (.aaload, 1)) (hr : h 0 r 0 = kc) (hk : kc = 4 ∨ kc = 5 ∨ kc = 6) (hl : h 1 r 0 = n) (h0 : 0 ≤ i) (h1 : i < n) (hv : h 2 r i = v) : vrun m pc L ((0, i) :: (1, r) :: S) h = vrun m (pc + 1) L ((1, v) :: S) h := by
  subst hv; exact rn_aaload d ⟨by rw [hr]; exact hk, vin_in hl h0 h1⟩
theorem rg_iastore {r i n v : Int} (d : decode (vmB m) pc = .ok (.iastore, 1)) (hr : h 0 r 0 = 1) (hl : h 1 r 0 = n) (h0 : 0 ≤ i) (h1 : i < n) : vrun m pc L ((0, v) :: (0, i) :: (1, r) :: S) h = vrun m (pc + 1) L S (vup h 2 r i v) := rn_iastore d ⟨hr, vin_in hl h0 h1⟩
theorem rg_bastore {r i n v : Int} (d : decode (vmB m) pc = .ok (.bastore, 1)) (hr : h 0 r 0 = 2) (hl : h 1 r 0 = n) (h0 : 0 ≤ i) (h1 : i < n) (hv : v = 0 ∨ v = 1) : vrun m pc L ((0, v) :: (0, i) :: (1, r) :: S) h = vrun m (pc + 1) L S (vup h 2 r i v) := rn_bastore d ⟨hr, vin_in hl h0 h1, hv⟩
theorem rg_aastore {r i n v kc : Int} (d : decode (vmB m) pc = .ok (.aastore, 1)) (hr : h 0 r 0 = kc) (hl : h 1 r 0 = n) (h0 : 0 ≤ i) (h1 : i < n) (hv : (kc = 4 ∧ (v = 0 ∨ h 0 v 0 = 25)) ∨ (kc = 5 ∧ (v = 0 ∨ h 0 v 0 = 26)) ∨ (kc = 6 ∧ (v = 0 ∨ h 0 v 0 = 22 ∨ h 0 v 0 = 29 ∨ h 0 v 0 = 32))) : vrun m pc L ((1, v) :: (0, i) :: (1, r) :: S) h = vrun m (pc + 1) L S (vup h 2 r i v) := rn_aastore d ⟨vin_in hl h0 h1, by rw [hr]; exact hv⟩
theorem rg_alen {r n k : Int} (d : decode (vmB m) pc = .ok (.arraylength, 1)) (hr : h 0 r 0 = k) (hk : k = 1 ∨ k = 2 ∨ k = 3 ∨ k = 4 ∨ k = 5 ∨ k = 6 ∨ k = 10 ∨ k = 11) (hn : h 1 r 0 = n) : vrun m pc L ((1, r) :: S) h = vrun m (pc + 1) L ((0, n) :: S) h := by
  subst hn
  refine rn_arraylength d ?_
  unfold vlen
  rw [hr]
  rcases hk with z | z | z | z | z | z | z | z <;> subst z <;> rfl
theorem rg_cast {k ci : Nat} {r kc : Int} (d : decode (vmB m) pc = .ok (.checkcast k, 3)) (hk : vcc (vmC m) k = some ci) (hc : 20 + (ci : Int) = kc) (hr : h 0 r 0 = kc) : vrun m pc L ((1, r) :: S) h = vrun m (pc + 3) L ((1, r) :: S) h := rn_checkcast d hk (Or.inr (hr.trans hc.symm))
theorem rg_if_ne {a : Int} {off : Int} {t : Nat} (d : decode (vmB m) pc = .ok (.ifCond .ne off, 3)) (ht : (pc : Int) + off = (t : Int)) : vrun m pc L ((0, a) :: S) h = if a = 0 then vrun m (pc + 3) L S h else vrun m t L S h := by
  rw [rn_if_ne d ht]
  by_cases e : a = 0
  · rw [if_neg (fun z => z e), if_pos e]
  · rw [if_pos e, if_neg e]
theorem rg_icmp_ne {a b : Int} {off : Int} {t : Nat} (d : decode (vmB m) pc = .ok (.if_icmp .ne off, 3)) (ht : (pc : Int) + off = (t : Int)) : vrun m pc L ((0, b) :: (0, a) :: S) h = if a = b then vrun m (pc + 3) L S h else vrun m t L S h := by
  rw [rn_icmp_ne d ht]
  by_cases e : a = b
  · rw [if_neg (fun z => z e), if_pos e]
  · rw [if_pos e, if_neg e]
theorem rg_beq {P : Prop} {dP : Decidable P} {off : Int} {t : Nat} (d : decode (vmB m) pc = .ok (.ifCond .eq off, 3)) (ht : (pc : Int) + off = (t : Int)) : vrun m pc L ((0, if P then 1 else 0) :: S) h = if P then vrun m (pc + 3) L S h else vrun m t L S h := by
  rw [rn_if_eq d ht]
  by_cases e : P
  · rw [if_pos e, if_pos e, if_neg (by decide)]
  · rw [if_neg e, if_neg e, if_pos rfl]
theorem rg_bne {P : Prop} {dP : Decidable P} {off : Int} {t : Nat} (d : decode (vmB m) pc = .ok (.ifCond .ne off, 3)) (ht : (pc : Int) + off = (t : Int)) : vrun m pc L ((0, if P then 1 else 0) :: S) h = if P then vrun m t L S h else vrun m (pc + 3) L S h := by
  rw [rg_if_ne d ht]
  by_cases e : P
  · rw [if_pos e, if_pos e, if_neg (by decide)]
  · rw [if_neg e, if_neg e, if_pos rfl]
theorem rg_max {k ci nn : Nat} {y : vM} {a b : Int} (d : decode (vmB m) pc = .ok (.invokestatic k, 3)) (hv : vrs (vmC m) k = some (8, ci, nn, y)) (hc : vcat S ≤ 8 ∧ 1 ≤ vmF m ∧ 40 ≤ vmW m) : vrun m pc L ((0, b) :: (0, a) :: S) h = vrun m (pc + 3) L ((0, max a b) :: S) h := by
  rw [rn_max d hv hc]
  congr 3
  omega
theorem rg_min {k ci nn : Nat} {y : vM} {a b : Int} (d : decode (vmB m) pc = .ok (.invokestatic k, 3)) (hv : vrs (vmC m) k = some (9, ci, nn, y)) (hc : vcat S ≤ 8 ∧ 1 ≤ vmF m ∧ 40 ≤ vmW m) : vrun m pc L ((0, b) :: (0, a) :: S) h = vrun m (pc + 3) L ((0, min a b) :: S) h := by
  rw [rn_min d hv hc]
  congr 3
  omega
theorem rg_virtual {k kd ci n : Nat} {y : vM} {b kc : Int} {rest : List vv} (d : decode (vmB m) pc = .ok (.invokevirtual k, 3)) (hv : vrs (vmC m) k = some (kd, ci, n, y)) (hs : S.drop n = (1, b) :: rest) (hk : kd < 2) (hc1 : 20 + (ci : Int) = kc) (hb : h 0 b 0 = kc) {as : List vv} (ha : (1, b) :: (S.take n).reverse = as) (hc : vcat rest ≤ 8 ∧ vmF y + 1 ≤ vmF m ∧ 8 + (vmL y + 11) + vmW y ≤ vmW m ∧ (vents as).length ≤ vmL y) : vrun m pc L S h = vret vrun m pc L rest (vcl y as h) := rn_virtual d hv hs ⟨hk, hb.trans hc1.symm⟩ ha hc
end RG
section RG2
variable {m : vM} {pc : Nat} {L S : List vv} {h : vH}
theorem rg_new {k ci : Nat} {kc nn : Int} (d : decode (vmB m) pc = .ok (.new k, 3)) (hx : vxt (vmC m) k = none) (hn : vnr (vmC m) k = some ci) (hc : 20 + (ci : Int) = kc) (hv : ((vn ci : Nat) : Int) = nn) : vrun m pc L S h = vrun m (pc + 3) L ((1, h 3 0 0) :: S) (vnew h kc 0 nn) := by
  subst hc; subst hv
  exact rn_new d hx hn
theorem vnew_k {ty len ns : Int} {k : Nat} {r i : Int} (e : k ≠ 3 ∧ k ≠ 4 ∧ k ≠ 5) (hr : r ≠ h 3 0 0) : vnew h ty len ns k r i = h k r i := by
  unfold vnew
  rw [if_neg hr, if_neg (fun z => e.1 z.2.2), if_neg (fun z => e.2.1 z.2.2), if_neg (fun z => e.2.2 z.2.2)]
theorem rg_copy1 {k ci nn : Nat} {y : vM} {n dp sp a b na nb : Int} (d : decode (vmB m) pc = .ok (.invokestatic k, 3)) (hv : vrs (vmC m) k = some (7, ci, nn, y)) (ka : h 0 a 0 = 1) (la : h 1 a 0 = na) (kb : h 0 b 0 = 1) (lb : h 1 b 0 = nb) (h0 : 0 ≤ n) (h1 : 0 ≤ sp) (h2 : 0 ≤ dp) (h3 : sp + n ≤ na) (h4 : dp + n ≤ nb) (ft : vcat S ≤ 8 ∧ 1 ≤ vmF m ∧ 40 ≤ vmW m) : vrun m pc L ((0, n) :: (0, dp) :: (1, b) :: (0, sp) :: (1, a) :: S) h = vrun m (pc + 3) L S (vcp h a sp b dp n) := by
  subst la; subst lb
  exact rn_copy d hv ⟨h0, h1, h2, h3, h4, Or.inl ⟨ka, kb⟩, ft⟩
theorem rg_copy4 {k ci nn : Nat} {y : vM} {n dp sp a b na nb : Int} (d : decode (vmB m) pc = .ok (.invokestatic k, 3)) (hv : vrs (vmC m) k = some (7, ci, nn, y)) (ka : h 0 a 0 = 4) (la : h 1 a 0 = na) (kb : h 0 b 0 = 4) (lb : h 1 b 0 = nb) (h0 : 0 ≤ n) (h1 : 0 ≤ sp) (h2 : 0 ≤ dp) (h3 : sp + n ≤ na) (h4 : dp + n ≤ nb) (he : ∀ i : Int, 0 ≤ i → i < n → h 2 a (sp + i) = 0 ∨ h 0 (h 2 a (sp + i)) 0 = 25) (ft : vcat S ≤ 8 ∧ 1 ≤ vmF m ∧ 40 ≤ vmW m) : vrun m pc L ((0, n) :: (0, dp) :: (1, b) :: (0, sp) :: (1, a) :: S) h = vrun m (pc + 3) L S (vcp h a sp b dp n) := by
  subst la; subst lb
  exact rn_copy d hv ⟨h0, h1, h2, h3, h4, Or.inr (Or.inl ⟨ka, kb, he⟩), ft⟩
end RG2
theorem dd {m : vM} {cc : ByteArray} {pc : Nat} {x : Except DecodeError (Instr × Nat)} (b : vmB m = cc) (d : decode cc pc = x) : decode (vmB m) pc = x := by
  subst b
  exact d
theorem rg_static {m : vM} {pc : Nat} {L S : List vv} {h : vH} {k kd ci n : Nat} {y : vM} (d : decode (vmB m) pc = .ok (.invokestatic k, 3)) (hv : vrs (vmC m) k = some (kd, ci, n, y)) (hk : ¬ kd = 7 ∧ ¬ kd = 8 ∧ ¬ kd = 9 ∧ (kd = 2 ∨ kd = 3 ∨ kd = 10)) (hn : n ≤ S.length) {as rest : List vv} (ha : (S.take n).reverse = as) (hs : S.drop n = rest) (hc : vcat rest ≤ 8 ∧ vmF y + 1 ≤ vmF m ∧ 8 + (vmL y + 11) + vmW y ≤ vmW m ∧ (vents as).length ≤ vmL y) : vrun m pc L S h = vret vrun m pc L rest (vcl y as h) := rn_static d hv ⟨hk.1, hk.2.1, hk.2.2.1, hn, hk.2.2.2⟩ ha hs hc
def biand (a b : Int) : Int := (vi32 a &&& vi32 b).toInt
def bior (a b : Int) : Int := (vi32 a ||| vi32 b).toInt
def bishl (a b : Int) : Int := (vi32 a <<< (vi32 b &&& 31)).toInt
def bland (a b : Int) : Int := (vi64 a &&& vi64 b).toInt
def blshr (a b : Int) : Int := (vi64 a >>> ((vi32 b).toInt64 &&& 63)).toInt
def blushr (a b : Int) : Int := ((vi64 a).toUInt64 >>> ((vi32 b).toInt64.toUInt64 &&& Int64.toUInt64 63)).toInt64.toInt
def blcmp (a b : Int) : Int := if b < a then 1 else if a = b then 0 else -1
section RG3
variable {m : vM} {pc : Nat} {L S : List vv} {h : vH} {a b : Int}
theorem rg_iand (d : decode (vmB m) pc = .ok (.iand, 1)) : vrun m pc L ((0, b) :: (0, a) :: S) h = vrun m (pc + 1) L ((0, biand a b) :: S) h := rn_iand d
theorem rg_ior (d : decode (vmB m) pc = .ok (.ior, 1)) : vrun m pc L ((0, b) :: (0, a) :: S) h = vrun m (pc + 1) L ((0, bior a b) :: S) h := rn_ior d
theorem rg_ishl (d : decode (vmB m) pc = .ok (.ishl, 1)) : vrun m pc L ((0, b) :: (0, a) :: S) h = vrun m (pc + 1) L ((0, bishl a b) :: S) h := rn_ishl d
theorem rg_land (d : decode (vmB m) pc = .ok (.land, 1)) : vrun m pc L ((2, b) :: (2, a) :: S) h = vrun m (pc + 1) L ((2, bland a b) :: S) h := rn_land d
theorem rg_lushr (d : decode (vmB m) pc = .ok (.lushr, 1)) : vrun m pc L ((0, b) :: (2, a) :: S) h = vrun m (pc + 1) L ((2, blushr a b) :: S) h := rn_lushr d
theorem rg_lcmp (d : decode (vmB m) pc = .ok (.lcmp, 1)) : vrun m pc L ((2, b) :: (2, a) :: S) h = vrun m (pc + 1) L ((0, blcmp a b) :: S) h := rn_lcmp d
end RG3
theorem vthrows_s {cc : ByteArray} {pc k is ic : Nat} (d0 : decode cc pc = .ok (.new k, 3)) (d1 : decode cc (pc + 3) = .ok (.dup, 1)) (d2 : decode cc (pc + 4) = .ok (.ldc is, 2)) (d3 : decode cc (pc + 6) = .ok (.invokespecial ic, 3)) (d4 : decode cc (pc + 9) = .ok (.athrow, 1)) : vthrows cc pc k = some (is, ic, false) := by
  unfold vthrows
  rw [d0, d1, d2, d3, d4]
  exact if_pos rfl
theorem vthrows_w {cc : ByteArray} {pc k is ic : Nat} (d0 : decode cc pc = .ok (.new k, 3)) (d1 : decode cc (pc + 3) = .ok (.dup, 1)) (d2 : decode cc (pc + 4) = .ok (.ldc_w is, 3)) (d3 : decode cc (pc + 7) = .ok (.invokespecial ic, 3)) (d4 : decode cc (pc + 10) = .ok (.athrow, 1)) : vthrows cc pc k = some (is, ic, true) := by
  unfold vthrows
  rw [d0, d1, d2, d3, d4]
  exact if_pos rfl
theorem vthrows_m {m : vM} {cc : ByteArray} {pc k : Nat} {x : Option (Nat × Nat × Bool)} (b : vmB m = cc) (d : vthrows cc pc k = x) : vthrows (vmB m) pc k = x := by
  subst b
  exact d

