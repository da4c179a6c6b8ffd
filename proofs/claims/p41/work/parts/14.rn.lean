section RN2
variable {m : vM} {pc : Nat} {L S : List vv} {h : vH}
theorem rn_aload_n {k : Fin 4} {x : Int} (d : decode (vmB m) pc = .ok (.aload_n k, 1)) (hl : L[k.val]? = some (1, x)) : vrun m pc L S h = vrun m (pc + 1) (L) ((1, x) :: S) (h) := rn_next (q := (pc + 1, L, (1, x) :: S, h)) (by rw [vact_of d rfl]; show (match L[k.val]? with | some (1, x) => vgo (pc + 1) L ((1, x) :: S) h | _ => none) = _; rw [hl]; rfl)
theorem rn_aload {k : Nat} {x : Int} (d : decode (vmB m) pc = .ok (.aload k, 2)) (hl : L[k]? = some (1, x)) : vrun m pc L S h = vrun m (pc + 2) (L) ((1, x) :: S) (h) := rn_next (q := (pc + 2, L, (1, x) :: S, h)) (by rw [vact_of d rfl]; show (match L[k]? with | some (1, x) => vgo (pc + 2) L ((1, x) :: S) h | _ => none) = _; rw [hl]; rfl)
theorem rn_astore_n {k : Fin 4} {x : Int} {L2 : List vv} (d : decode (vmB m) pc = .ok (.astore_n k, 1)) (hk : k.val < L.length) (hl : vset L k.val (1, x) = L2) : vrun m pc L ((1, x) :: S) h = vrun m (pc + 1) (L2) (S) (h) := rn_next (q := (pc + 1, L2, S, h)) (by rw [vact_of d rfl]; exact (if_pos hk).trans (by rw [hl]; rfl))
theorem rn_astore {k : Nat} {x : Int} {L2 : List vv} (d : decode (vmB m) pc = .ok (.astore k, 2)) (hk : k < L.length) (hl : vset L k (1, x) = L2) : vrun m pc L ((1, x) :: S) h = vrun m (pc + 2) (L2) (S) (h) := rn_next (q := (pc + 2, L2, S, h)) (by rw [vact_of d rfl]; exact (if_pos hk).trans (by rw [hl]; rfl))
theorem rn_iload_n {k : Fin 4} {x : Int} (d : decode (vmB m) pc = .ok (.iload_n k, 1)) (hl : L[k.val]? = some (0, x)) : vrun m pc L S h = vrun m (pc + 1) (L) ((0, x) :: S) (h) := rn_next (q := (pc + 1, L, (0, x) :: S, h)) (by rw [vact_of d rfl]; show (match L[k.val]? with | some (0, x) => vgo (pc + 1) L ((0, x) :: S) h | _ => none) = _; rw [hl]; rfl)
theorem rn_iload {k : Nat} {x : Int} (d : decode (vmB m) pc = .ok (.iload k, 2)) (hl : L[k]? = some (0, x)) : vrun m pc L S h = vrun m (pc + 2) (L) ((0, x) :: S) (h) := rn_next (q := (pc + 2, L, (0, x) :: S, h)) (by rw [vact_of d rfl]; show (match L[k]? with | some (0, x) => vgo (pc + 2) L ((0, x) :: S) h | _ => none) = _; rw [hl]; rfl)
theorem rn_istore_n {k : Fin 4} {x : Int} {L2 : List vv} (d : decode (vmB m) pc = .ok (.istore_n k, 1)) (hk : k.val < L.length) (hl : vset L k.val (0, x) = L2) : vrun m pc L ((0, x) :: S) h = vrun m (pc + 1) (L2) (S) (h) := rn_next (q := (pc + 1, L2, S, h)) (by rw [vact_of d rfl]; exact (if_pos hk).trans (by rw [hl]; rfl))
theorem rn_istore {k : Nat} {x : Int} {L2 : List vv} (d : decode (vmB m) pc = .ok (.istore k, 2)) (hk : k < L.length) (hl : vset L k (0, x) = L2) : vrun m pc L ((0, x) :: S) h = vrun m (pc + 2) (L2) (S) (h) := rn_next (q := (pc + 2, L2, S, h)) (by rw [vact_of d rfl]; exact (if_pos hk).trans (by rw [hl]; rfl))
theorem rn_lload_n {k : Fin 4} {x : Int} (d : decode (vmB m) pc = .ok (.lload_n k, 1)) (hl : L[k.val]? = some (2, x)) : vrun m pc L S h = vrun m (pc + 1) (L) ((2, x) :: S) (h) := rn_next (q := (pc + 1, L, (2, x) :: S, h)) (by rw [vact_of d rfl]; show (match L[k.val]? with | some (2, x) => vgo (pc + 1) L ((2, x) :: S) h | _ => none) = _; rw [hl]; rfl)
theorem rn_lload {k : Nat} {x : Int} (d : decode (vmB m) pc = .ok (.lload k, 2)) (hl : L[k]? = some (2, x)) : vrun m pc L S h = vrun m (pc + 2) (L) ((2, x) :: S) (h) := rn_next (q := (pc + 2, L, (2, x) :: S, h)) (by rw [vact_of d rfl]; show (match L[k]? with | some (2, x) => vgo (pc + 2) L ((2, x) :: S) h | _ => none) = _; rw [hl]; rfl)
theorem rn_lstore_n {k : Fin 4} {x : Int} {L2 : List vv} (d : decode (vmB m) pc = .ok (.lstore_n k, 1)) (hk : k.val + 1 < L.length) (hl : vset2 L k.val (2, x) = L2) : vrun m pc L ((2, x) :: S) h = vrun m (pc + 1) (L2) (S) (h) := rn_next (q := (pc + 1, L2, S, h)) (by rw [vact_of d rfl]; exact (if_pos hk).trans (by rw [hl]; rfl))
theorem rn_lstore {k : Nat} {x : Int} {L2 : List vv} (d : decode (vmB m) pc = .ok (.lstore k, 2)) (hk : k + 1 < L.length) (hl : vset2 L k (2, x) = L2) : vrun m pc L ((2, x) :: S) h = vrun m (pc + 2) (L2) (S) (h) := rn_next (q := (pc + 2, L2, S, h)) (by rw [vact_of d rfl]; exact (if_pos hk).trans (by rw [hl]; rfl))
theorem rn_iinc {k : Nat} {x n : Int} {L2 : List vv} (d : decode (vmB m) pc = .ok (.iinc k n, 3)) (hx : L[k]? = some (0, x)) (hk : k < L.length) (hl : vset L k (0, w32 (x + n)) = L2) : vrun m pc L S h = vrun m (pc + 3) (L2) (S) (h) := rn_next (q := (pc + 3, L2, S, h)) (by rw [vact_of d rfl]; show (match L[k]? with | some (0, x) => if k < L.length then vgo (pc + 3) (vset L k (0, w32 (x + n))) S h else none | _ => none) = _; rw [hx]; exact (if_pos hk).trans (by rw [hl]; rfl))
theorem rn_iconst {n : Int} (d : decode (vmB m) pc = .ok (.iconst n, 1)) (hn : -2147483648 ≤ n ∧ n < 2147483648) : vrun m pc L S h = vrun m (pc + 1) (L) ((0, n) :: S) (h) := rn_next (q := (pc + 1, L, (0, n) :: S, h)) (by rw [vact_of d rfl]; exact if_pos hn)
theorem rn_bipush {n : Int} (d : decode (vmB m) pc = .ok (.bipush n, 2)) (hn : -128 ≤ n ∧ n < 128) : vrun m pc L S h = vrun m (pc + 2) (L) ((0, n) :: S) (h) := rn_next (q := (pc + 2, L, (0, n) :: S, h)) (by rw [vact_of d rfl]; exact if_pos hn)
theorem rn_sipush {n : Int} (d : decode (vmB m) pc = .ok (.sipush n, 3)) (hn : -32768 ≤ n ∧ n < 32768) : vrun m pc L S h = vrun m (pc + 3) (L) ((0, n) :: S) (h) := rn_next (q := (pc + 3, L, (0, n) :: S, h)) (by rw [vact_of d rfl]; exact if_pos hn)
theorem rn_lconst {n : Fin 2} (d : decode (vmB m) pc = .ok (.lconst n, 1))  : vrun m pc L S h = vrun m (pc + 1) (L) ((2, ((n : Nat) : Int)) :: S) (h) := rn_next (q := (pc + 1, L, (2, ((n : Nat) : Int)) :: S, h)) (by rw [vact_of d rfl]; rfl)
theorem rn_ldc2_w {k : Nat} {z : Int} (d : decode (vmB m) pc = .ok (.ldc2_w k, 3)) (hz : vlc (vmC m) k = some z) : vrun m pc L S h = vrun m (pc + 3) (L) ((2, z) :: S) (h) := rn_next (q := (pc + 3, L, (2, z) :: S, h)) (by rw [vact_of d rfl]; show (match vlc (vmC m) k with | some z => vgo (pc + 3) L ((2, z) :: S) h | _ => none) = _; rw [hz]; rfl)
theorem rn_ldc {k : Nat} {z : Int} (d : decode (vmB m) pc = .ok (.ldc k, 2)) (hz : vic (vmC m) k = some z) : vrun m pc L S h = vrun m (pc + 2) (L) ((0, z) :: S) (h) := rn_next (q := (pc + 2, L, (0, z) :: S, h)) (by rw [vact_of d rfl]; show (match vic (vmC m) k with | some z => vgo (pc + 2) L ((0, z) :: S) h | _ => none) = _; rw [hz]; rfl)
theorem rn_aconst_null  (d : decode (vmB m) pc = .ok (.aconst_null, 1))  : vrun m pc L S h = vrun m (pc + 1) (L) ((1, 0) :: S) (h) := rn_next (q := (pc + 1, L, (1, 0) :: S, h)) (by rw [vact_of d rfl]; rfl)
theorem rn_iadd {a b : Int} (d : decode (vmB m) pc = .ok (.iadd, 1))  : vrun m pc L ((0, b) :: (0, a) :: S) h = vrun m (pc + 1) (L) ((0, w32 (a + b)) :: S) (h) := rn_next (q := (pc + 1, L, (0, w32 (a + b)) :: S, h)) (by rw [vact_of d rfl]; rfl)
theorem rn_isub {a b : Int} (d : decode (vmB m) pc = .ok (.isub, 1))  : vrun m pc L ((0, b) :: (0, a) :: S) h = vrun m (pc + 1) (L) ((0, w32 (a - b)) :: S) (h) := rn_next (q := (pc + 1, L, (0, w32 (a - b)) :: S, h)) (by rw [vact_of d rfl]; rfl)
theorem rn_imul {a b : Int} (d : decode (vmB m) pc = .ok (.imul, 1))  : vrun m pc L ((0, b) :: (0, a) :: S) h = vrun m (pc + 1) (L) ((0, w32 (a * b)) :: S) (h) := rn_next (q := (pc + 1, L, (0, w32 (a * b)) :: S, h)) (by rw [vact_of d rfl]; rfl)
theorem rn_iand {a b : Int} (d : decode (vmB m) pc = .ok (.iand, 1))  : vrun m pc L ((0, b) :: (0, a) :: S) h = vrun m (pc + 1) (L) (vI (vi32 a &&& vi32 b) :: S) (h) := rn_next (q := (pc + 1, L, vI (vi32 a &&& vi32 b) :: S, h)) (by rw [vact_of d rfl]; rfl)
theorem rn_ior {a b : Int} (d : decode (vmB m) pc = .ok (.ior, 1))  : vrun m pc L ((0, b) :: (0, a) :: S) h = vrun m (pc + 1) (L) (vI (vi32 a ||| vi32 b) :: S) (h) := rn_next (q := (pc + 1, L, vI (vi32 a ||| vi32 b) :: S, h)) (by rw [vact_of d rfl]; rfl)
theorem rn_ishl {a b : Int} (d : decode (vmB m) pc = .ok (.ishl, 1))  : vrun m pc L ((0, b) :: (0, a) :: S) h = vrun m (pc + 1) (L) (vI (vi32 a <<< (vi32 b &&& 31)) :: S) (h) := rn_next (q := (pc + 1, L, vI (vi32 a <<< (vi32 b &&& 31)) :: S, h)) (by rw [vact_of d rfl]; rfl)
theorem rn_ishr {a b : Int} (d : decode (vmB m) pc = .ok (.ishr, 1))  : vrun m pc L ((0, b) :: (0, a) :: S) h = vrun m (pc + 1) (L) (vI (vi32 a >>> (vi32 b &&& 31)) :: S) (h) := rn_next (q := (pc + 1, L, vI (vi32 a >>> (vi32 b &&& 31)) :: S, h)) (by rw [vact_of d rfl]; rfl)
theorem rn_idiv {a b : Int} (d : decode (vmB m) pc = .ok (.idiv, 1)) (hb : ¬ b = 0) : vrun m pc L ((0, b) :: (0, a) :: S) h = vrun m (pc + 1) (L) ((0, w32 (a.tdiv b)) :: S) (h) := rn_next (q := (pc + 1, L, (0, w32 (a.tdiv b)) :: S, h)) (by rw [vact_of d rfl]; exact if_neg hb)
theorem rn_irem {a b : Int} (d : decode (vmB m) pc = .ok (.irem, 1)) (hb : ¬ b = 0) : vrun m pc L ((0, b) :: (0, a) :: S) h = vrun m (pc + 1) (L) ((0, a.tmod b) :: S) (h) := rn_next (q := (pc + 1, L, (0, a.tmod b) :: S, h)) (by rw [vact_of d rfl]; exact if_neg hb)
theorem rn_ineg {a : Int} (d : decode (vmB m) pc = .ok (.ineg, 1))  : vrun m pc L ((0, a) :: S) h = vrun m (pc + 1) (L) ((0, w32 (-a)) :: S) (h) := rn_next (q := (pc + 1, L, (0, w32 (-a)) :: S, h)) (by rw [vact_of d rfl]; rfl)
theorem rn_i2l {a : Int} (d : decode (vmB m) pc = .ok (.i2l, 1))  : vrun m pc L ((0, a) :: S) h = vrun m (pc + 1) (L) ((2, a) :: S) (h) := rn_next (q := (pc + 1, L, (2, a) :: S, h)) (by rw [vact_of d rfl]; rfl)
theorem rn_l2i {a : Int} (d : decode (vmB m) pc = .ok (.l2i, 1))  : vrun m pc L ((2, a) :: S) h = vrun m (pc + 1) (L) ((0, w32 a) :: S) (h) := rn_next (q := (pc + 1, L, (0, w32 a) :: S, h)) (by rw [vact_of d rfl]; rfl)
theorem rn_land {a b : Int} (d : decode (vmB m) pc = .ok (.land, 1))  : vrun m pc L ((2, b) :: (2, a) :: S) h = vrun m (pc + 1) (L) (vL (vi64 a &&& vi64 b) :: S) (h) := rn_next (q := (pc + 1, L, vL (vi64 a &&& vi64 b) :: S, h)) (by rw [vact_of d rfl]; rfl)
theorem rn_lor {a b : Int} (d : decode (vmB m) pc = .ok (.lor, 1))  : vrun m pc L ((2, b) :: (2, a) :: S) h = vrun m (pc + 1) (L) (vL (vi64 a ||| vi64 b) :: S) (h) := rn_next (q := (pc + 1, L, vL (vi64 a ||| vi64 b) :: S, h)) (by rw [vact_of d rfl]; rfl)
theorem rn_lshr {a b : Int} (d : decode (vmB m) pc = .ok (.lshr, 1))  : vrun m pc L ((0, b) :: (2, a) :: S) h = vrun m (pc + 1) (L) (vL (vi64 a >>> ((vi32 b).toInt64 &&& 63)) :: S) (h) := rn_next (q := (pc + 1, L, vL (vi64 a >>> ((vi32 b).toInt64 &&& 63)) :: S, h)) (by rw [vact_of d rfl]; rfl)
theorem rn_lshl {a b : Int} (d : decode (vmB m) pc = .ok (.lshl, 1))  : vrun m pc L ((0, b) :: (2, a) :: S) h = vrun m (pc + 1) (L) (vL (vi64 a <<< ((vi32 b).toInt64 &&& 63)) :: S) (h) := rn_next (q := (pc + 1, L, vL (vi64 a <<< ((vi32 b).toInt64 &&& 63)) :: S, h)) (by rw [vact_of d rfl]; rfl)
theorem rn_lushr {a b : Int} (d : decode (vmB m) pc = .ok (.lushr, 1))  : vrun m pc L ((0, b) :: (2, a) :: S) h = vrun m (pc + 1) (L) (vL ((vi64 a).toUInt64 >>> ((vi32 b).toInt64.toUInt64 &&& Int64.toUInt64 63)).toInt64 :: S) (h) := rn_next (q := (pc + 1, L, vL ((vi64 a).toUInt64 >>> ((vi32 b).toInt64.toUInt64 &&& Int64.toUInt64 63)).toInt64 :: S, h)) (by rw [vact_of d rfl]; rfl)
theorem rn_lcmp {a b : Int} (d : decode (vmB m) pc = .ok (.lcmp, 1))  : vrun m pc L ((2, b) :: (2, a) :: S) h = vrun m (pc + 1) (L) ((0, if b < a then 1 else if a = b then 0 else -1) :: S) (h) := rn_next (q := (pc + 1, L, (0, if b < a then 1 else if a = b then 0 else -1) :: S, h)) (by rw [vact_of d rfl]; rfl)
theorem rn_dup {k : Nat} {x : Int} (d : decode (vmB m) pc = .ok (.dup, 1)) (hk : k < 2) : vrun m pc L ((k, x) :: S) h = vrun m (pc + 1) (L) ((k, x) :: (k, x) :: S) (h) := rn_next (q := (pc + 1, L, (k, x) :: (k, x) :: S, h)) (by rw [vact_of d rfl]; exact if_pos hk)
theorem rn_dup_x1 {k j : Nat} {x y : Int} (d : decode (vmB m) pc = .ok (.dup_x1, 1)) (hk : k < 2 ∧ j < 2) : vrun m pc L ((k, x) :: (j, y) :: S) h = vrun m (pc + 1) (L) ((k, x) :: (j, y) :: (k, x) :: S) (h) := rn_next (q := (pc + 1, L, (k, x) :: (j, y) :: (k, x) :: S, h)) (by rw [vact_of d rfl]; exact if_pos hk)
theorem rn_dup2 {k j : Nat} {x y : Int} (d : decode (vmB m) pc = .ok (.dup2, 1)) (hk : k < 2 ∧ j < 2) : vrun m pc L ((k, x) :: (j, y) :: S) h = vrun m (pc + 1) (L) ((k, x) :: (j, y) :: (k, x) :: (j, y) :: S) (h) := rn_next (q := (pc + 1, L, (k, x) :: (j, y) :: (k, x) :: (j, y) :: S, h)) (by rw [vact_of d rfl]; exact if_pos hk)
theorem rn_pop {k : Nat} {x : Int} (d : decode (vmB m) pc = .ok (.pop, 1)) (hk : k < 2) : vrun m pc L ((k, x) :: S) h = vrun m (pc + 1) (L) (S) (h) := rn_next (q := (pc + 1, L, S, h)) (by rw [vact_of d rfl]; exact if_pos hk)
theorem vjmp_of {off : Int} {t : Nat} (ht : (pc : Int) + off = (t : Int)) : vjmp pc off L S h = some (.inr (.inl (t, L, S, h))) := by
  unfold vjmp; rw [ht, if_pos (Int.natCast_nonneg t), Int.toNat_natCast]
theorem vbr_of {c : Prop} {i : Decidable c} {off : Int} {t : Nat} (ht : (pc : Int) + off = (t : Int)) : vbr (decide c) pc off L S h = some (.inr (.inl (if c then (t, L, S, h) else (pc + 3, L, S, h)))) := by
  unfold vbr
  rw [ht, if_pos (Int.natCast_nonneg t), Int.toNat_natCast]
  by_cases hc : c
  · rw [if_pos (decide_eq_true hc), if_pos hc]; rfl
  · rw [if_neg (by simp [hc]), if_neg hc]; rfl
theorem rn_goto {off : Int} {t : Nat} (d : decode (vmB m) pc = .ok (.goto off, 3)) (ht : (pc : Int) + off = (t : Int)) : vrun m pc L S h = vrun m (t) (L) (S) (h) := rn_next (q := (t, L, S, h)) (by rw [vact_of d rfl]; exact vjmp_of ht)
theorem rn_if_eq {a : Int} {off : Int} {t : Nat} (d : decode (vmB m) pc = .ok (.ifCond .eq off, 3)) (ht : (pc : Int) + off = (t : Int)) : vrun m pc L ((0, a) :: S) h = if a = 0 then vrun m t L S h else vrun m (pc + 3) L S h := by
  rw [rn_next (q := if a = 0 then (t, L, S, h) else (pc + 3, L, S, h)) (by rw [vact_of d rfl]; exact vbr_of ht)]
  by_cases hc : a = 0
  · rw [if_pos hc, if_pos hc]
  · rw [if_neg hc, if_neg hc]
theorem rn_if_ne {a : Int} {off : Int} {t : Nat} (d : decode (vmB m) pc = .ok (.ifCond .ne off, 3)) (ht : (pc : Int) + off = (t : Int)) : vrun m pc L ((0, a) :: S) h = if a ≠ 0 then vrun m t L S h else vrun m (pc + 3) L S h := by
  rw [rn_next (q := if a ≠ 0 then (t, L, S, h) else (pc + 3, L, S, h)) (by rw [vact_of d rfl]; exact vbr_of ht)]
  by_cases hc : a ≠ 0
  · rw [if_pos hc, if_pos hc]
  · rw [if_neg hc, if_neg hc]
theorem rn_if_lt {a : Int} {off : Int} {t : Nat} (d : decode (vmB m) pc = .ok (.ifCond .lt off, 3)) (ht : (pc : Int) + off = (t : Int)) : vrun m pc L ((0, a) :: S) h = if a < 0 then vrun m t L S h else vrun m (pc + 3) L S h := by
  rw [rn_next (q := if a < 0 then (t, L, S, h) else (pc + 3, L, S, h)) (by rw [vact_of d rfl]; exact vbr_of ht)]
  by_cases hc : a < 0
  · rw [if_pos hc, if_pos hc]
  · rw [if_neg hc, if_neg hc]
theorem rn_if_ge {a : Int} {off : Int} {t : Nat} (d : decode (vmB m) pc = .ok (.ifCond .ge off, 3)) (ht : (pc : Int) + off = (t : Int)) : vrun m pc L ((0, a) :: S) h = if 0 ≤ a then vrun m t L S h else vrun m (pc + 3) L S h := by
  rw [rn_next (q := if 0 ≤ a then (t, L, S, h) else (pc + 3, L, S, h)) (by rw [vact_of d rfl]; exact vbr_of ht)]
  by_cases hc : 0 ≤ a
  · rw [if_pos hc, if_pos hc]
  · rw [if_neg hc, if_neg hc]
theorem rn_if_gt {a : Int} {off : Int} {t : Nat} (d : decode (vmB m) pc = .ok (.ifCond .gt off, 3)) (ht : (pc : Int) + off = (t : Int)) : vrun m pc L ((0, a) :: S) h = if 0 < a then vrun m t L S h else vrun m (pc + 3) L S h := by
  rw [rn_next (q := if 0 < a then (t, L, S, h) else (pc + 3, L, S, h)) (by rw [vact_of d rfl]; exact vbr_of ht)]
  by_cases hc : 0 < a
  · rw [if_pos hc, if_pos hc]
  · rw [if_neg hc, if_neg hc]
theorem rn_if_le {a : Int} {off : Int} {t : Nat} (d : decode (vmB m) pc = .ok (.ifCond .le off, 3)) (ht : (pc : Int) + off = (t : Int)) : vrun m pc L ((0, a) :: S) h = if a ≤ 0 then vrun m t L S h else vrun m (pc + 3) L S h := by
  rw [rn_next (q := if a ≤ 0 then (t, L, S, h) else (pc + 3, L, S, h)) (by rw [vact_of d rfl]; exact vbr_of ht)]
  by_cases hc : a ≤ 0
  · rw [if_pos hc, if_pos hc]
  · rw [if_neg hc, if_neg hc]
theorem rn_icmp_eq {a b : Int} {off : Int} {t : Nat} (d : decode (vmB m) pc = .ok (.if_icmp .eq off, 3)) (ht : (pc : Int) + off = (t : Int)) : vrun m pc L ((0, b) :: (0, a) :: S) h = if a = b then vrun m t L S h else vrun m (pc + 3) L S h := by
  rw [rn_next (q := if a = b then (t, L, S, h) else (pc + 3, L, S, h)) (by rw [vact_of d rfl]; exact vbr_of ht)]
  by_cases hc : a = b
  · rw [if_pos hc, if_pos hc]
  · rw [if_neg hc, if_neg hc]
theorem rn_icmp_ne {a b : Int} {off : Int} {t : Nat} (d : decode (vmB m) pc = .ok (.if_icmp .ne off, 3)) (ht : (pc : Int) + off = (t : Int)) : vrun m pc L ((0, b) :: (0, a) :: S) h = if a ≠ b then vrun m t L S h else vrun m (pc + 3) L S h := by
  rw [rn_next (q := if a ≠ b then (t, L, S, h) else (pc + 3, L, S, h)) (by rw [vact_of d rfl]; exact vbr_of ht)]
  by_cases hc : a ≠ b
  · rw [if_pos hc, if_pos hc]
  · rw [if_neg hc, if_neg hc]
theorem rn_icmp_lt {a b : Int} {off : Int} {t : Nat} (d : decode (vmB m) pc = .ok (.if_icmp .lt off, 3)) (ht : (pc : Int) + off = (t : Int)) : vrun m pc L ((0, b) :: (0, a) :: S) h = if a < b then vrun m t L S h else vrun m (pc + 3) L S h := by
  rw [rn_next (q := if a < b then (t, L, S, h) else (pc + 3, L, S, h)) (by rw [vact_of d rfl]; exact vbr_of ht)]
  by_cases hc : a < b
  · rw [if_pos hc, if_pos hc]
  · rw [if_neg hc, if_neg hc]
theorem rn_icmp_ge {a b : Int} {off : Int} {t : Nat} (d : decode (vmB m) pc = .ok (.if_icmp .ge off, 3)) (ht : (pc : Int) + off = (t : Int)) : vrun m pc L ((0, b) :: (0, a) :: S) h = if b ≤ a then vrun m t L S h else vrun m (pc + 3) L S h := by
  rw [rn_next (q := if b ≤ a then (t, L, S, h) else (pc + 3, L, S, h)) (by rw [vact_of d rfl]; exact vbr_of ht)]
  by_cases hc : b ≤ a
  · rw [if_pos hc, if_pos hc]
  · rw [if_neg hc, if_neg hc]
theorem rn_icmp_gt {a b : Int} {off : Int} {t : Nat} (d : decode (vmB m) pc = .ok (.if_icmp .gt off, 3)) (ht : (pc : Int) + off = (t : Int)) : vrun m pc L ((0, b) :: (0, a) :: S) h = if b < a then vrun m t L S h else vrun m (pc + 3) L S h := by
  rw [rn_next (q := if b < a then (t, L, S, h) else (pc + 3, L, S, h)) (by rw [vact_of d rfl]; exact vbr_of ht)]
  by_cases hc : b < a
  · rw [if_pos hc, if_pos hc]
  · rw [if_neg hc, if_neg hc]
theorem rn_icmp_le {a b : Int} {off : Int} {t : Nat} (d : decode (vmB m) pc = .ok (.if_icmp .le off, 3)) (ht : (pc : Int) + off = (t : Int)) : vrun m pc L ((0, b) :: (0, a) :: S) h = if a ≤ b then vrun m t L S h else vrun m (pc + 3) L S h := by
  rw [rn_next (q := if a ≤ b then (t, L, S, h) else (pc + 3, L, S, h)) (by rw [vact_of d rfl]; exact vbr_of ht)]
  by_cases hc : a ≤ b
  · rw [if_pos hc, if_pos hc]
  · rw [if_neg hc, if_neg hc]
theorem rn_acmp_eq {a b : Int} {off : Int} {t : Nat} (d : decode (vmB m) pc = .ok (.if_acmp .eq off, 3)) (ht : (pc : Int) + off = (t : Int)) (h2 : a ≠ 2 ∧ b ≠ 2) : vrun m pc L ((1, b) :: (1, a) :: S) h = if a = b then vrun m t L S h else vrun m (pc + 3) L S h := by
  rw [rn_next (q := if a = b then (t, L, S, h) else (pc + 3, L, S, h)) (by rw [vact_of d rfl]; exact (if_pos h2).trans (vbr_of ht))]
  by_cases hc : a = b
  · rw [if_pos hc, if_pos hc]
  · rw [if_neg hc, if_neg hc]
theorem rn_acmp_ne {a b : Int} {off : Int} {t : Nat} (d : decode (vmB m) pc = .ok (.if_acmp .ne off, 3)) (ht : (pc : Int) + off = (t : Int)) (h2 : a ≠ 2 ∧ b ≠ 2) : vrun m pc L ((1, b) :: (1, a) :: S) h = if a ≠ b then vrun m t L S h else vrun m (pc + 3) L S h := by
  rw [rn_next (q := if a ≠ b then (t, L, S, h) else (pc + 3, L, S, h)) (by rw [vact_of d rfl]; exact (if_pos h2).trans (vbr_of ht))]
  by_cases hc : a ≠ b
  · rw [if_pos hc, if_pos hc]
  · rw [if_neg hc, if_neg hc]
theorem rn_table {dd lo hi : Int} {offs : Array Int} {n : Nat} {x : Int} (d : decode (vmB m) pc = .ok (.tableswitch dd lo hi offs, n)) {off : Int} {t : Nat} (hx : ¬ (x < lo ∨ hi < x)) (ho : offs[(x - lo).toNat]? = some off) (ht : (pc : Int) + off = (t : Int)) : vrun m pc L ((0, x) :: S) h = vrun m t L S h := rn_next (q := (t, L, S, h)) (by
  rw [vact_of d rfl]
  refine (if_neg hx).trans ?_
  show (match offs[(x - lo).toNat]? with | some off => vjmp pc off L S h | none => none) = _
  rw [ho]; exact vjmp_of ht)
theorem rn_tableD {dd lo hi : Int} {offs : Array Int} {n : Nat} {x : Int} (d : decode (vmB m) pc = .ok (.tableswitch dd lo hi offs, n)) {t : Nat} (hx : x < lo ∨ hi < x) (ht : (pc : Int) + dd = (t : Int)) : vrun m pc L ((0, x) :: S) h = vrun m t L S h := rn_next (q := (t, L, S, h)) (by
  rw [vact_of d rfl]
  refine (if_pos hx).trans ?_
  exact vjmp_of ht)
theorem rn_getfield {k ci j t : Nat} {b : Bool} {r : Int} (d : decode (vmB m) pc = .ok (.getfield k, 3)) (hf : vfr (vmC m) k = some (ci, j, b)) (ht : vkd (vtyp ci j) = t) (hr : h 0 r 0 = 20 + (ci : Int)) : vrun m pc L ((1, r) :: S) h = vrun m (pc + 3) (L) ((t, h (vfc ci j) r 0) :: S) (h) := rn_next (q := (pc + 3, L, (t, h (vfc ci j) r 0) :: S, h)) (by rw [vact_of d rfl]; show (match vfr (vmC m) k with | some q => if h 0 r 0 = 20 + (q.1 : Int) then vgo (pc + 3) L ((vkd (vtyp q.1 q.2.1), h (vfc q.1 q.2.1) r 0) :: S) h else none | none => none) = _; rw [hf, ← ht]; exact if_pos hr)
theorem rn_putfield {k ci j t : Nat} {b : Bool} {r v : Int} (d : decode (vmB m) pc = .ok (.putfield k, 3)) (hf : vfr (vmC m) k = some (ci, j, b)) (hr : h 0 r 0 = 20 + (ci : Int) ∧ t = vkd (vtyp ci j) ∧ (vtyp ci j = FieldType.boolean → v = 0 ∨ v = 1) ∧ (vfin ci j = true → (vmY m).name = "<init>" ∧ vmC m = ci)) : vrun m pc L ((t, v) :: (1, r) :: S) h = vrun m (pc + 3) L S (vup h (vfc ci j) r 0 v) := rn_next (q := (pc + 3, L, S, vup h (vfc ci j) r 0 v)) (by
  rw [vact_of d rfl]
  show (match vfr (vmC m) k with
        | some q => if h 0 r 0 = 20 + (q.1 : Int) ∧ t = vkd (vtyp q.1 q.2.1) ∧ (vtyp q.1 q.2.1 = FieldType.boolean → v = 0 ∨ v = 1) ∧ (vfin q.1 q.2.1 = true → (vmY m).name = "<init>" ∧ vmC m = q.1) then vgo (pc + 3) L S (vup h (vfc q.1 q.2.1) r 0 v) else none
        | none => none) = _
  rw [hf]; exact if_pos hr)
theorem rn_getstatic  (d : decode (vmB m) pc = .ok (.getstatic 39, 3)) (hm : vmC m = 0) : vrun m pc L S h = vrun m (pc + 3) (L) ((1, 1) :: S) (h) := rn_next (q := (pc + 3, L, (1, 1) :: S, h)) (by rw [vact_of d rfl]; exact if_pos ⟨hm, rfl⟩)
theorem rn_new {k ci : Nat} (d : decode (vmB m) pc = .ok (.new k, 3)) (hx : vxt (vmC m) k = none) (hn : vnr (vmC m) k = some ci) : vrun m pc L S h = vrun m (pc + 3) L ((1, h 3 0 0) :: S) (vnew h (20 + (ci : Int)) 0 (vn ci)) := rn_next (q := (pc + 3, L, (1, h 3 0 0) :: S, vnew h (20 + (ci : Int)) 0 (vn ci))) (by
  rw [vact_of d rfl]
  show (match vxt (vmC m) k with
      | some E => _
      | none => (match vnr (vmC m) k with
        | some ci => vgo (pc + 3) L ((1, h 3 0 0) :: S) (vnew h (20 + (ci : Int)) 0 (vn ci))
        | none => none)) = _
  rw [hx, hn]; rfl)
theorem rn_throw {k is ic : Nat} {b : Bool} {E : String} (d : decode (vmB m) pc = .ok (.new k, 3)) (hx : vxt (vmC m) k = some E) (ht : vthrows (vmB m) pc k = some (is, ic, b)) (ho : vxok E ic is = true ∧ vmC m = 13 ∧ vmH m = [] ∧ 6 ≤ vmF m ∧ vcat S + 82 ≤ vmW m) : vrun m pc L S h = some (.inr E, vexc h) := rn_done (by
  rw [vact_of d rfl]
  show (match vxt (vmC m) k with
      | some E => (match vthrows (vmB m) pc k with
        | some q => if vxok E q.2.1 q.1 = true ∧ vmC m = 13 ∧ vmH m = [] ∧ 6 ≤ vmF m ∧ vcat S + 82 ≤ vmW m then (some (.inl (.inr E, vexc h)) : vA) else none
        | none => none)
      | none => _) = _
  rw [hx]
  show (match vthrows (vmB m) pc k with
        | some q => if vxok E q.2.1 q.1 = true ∧ vmC m = 13 ∧ vmH m = [] ∧ 6 ≤ vmF m ∧ vcat S + 82 ≤ vmW m then (some (.inl (.inr E, vexc h)) : vA) else none
        | none => none) = _
  rw [ht]; exact if_pos ho)
theorem rn_new_int {n : Int} (d : decode (vmB m) pc = .ok (.newarray .int, 2)) (hn : 0 ≤ n ∧ n ≤ 100000) : vrun m pc L ((0, n) :: S) h = vrun m (pc + 2) (L) ((1, h 3 0 0) :: S) (vnew h 1 n n) := rn_next (q := (pc + 2, L, (1, h 3 0 0) :: S, vnew h 1 n n)) (by rw [vact_of d rfl]; exact if_pos hn)
theorem rn_new_boolean {n : Int} (d : decode (vmB m) pc = .ok (.newarray .boolean, 2)) (hn : 0 ≤ n ∧ n ≤ 100000) : vrun m pc L ((0, n) :: S) h = vrun m (pc + 2) (L) ((1, h 3 0 0) :: S) (vnew h 2 n n) := rn_next (q := (pc + 2, L, (1, h 3 0 0) :: S, vnew h 2 n n)) (by rw [vact_of d rfl]; exact if_pos hn)
theorem rn_anewarray {k ki : Nat} {n : Int} (d : decode (vmB m) pc = .ok (.anewarray k, 3)) (hk : vaq (vmC m) k = some ki) (hn : 0 ≤ n ∧ n ≤ 100000) : vrun m pc L ((0, n) :: S) h = vrun m (pc + 3) (L) ((1, h 3 0 0) :: S) (vnew h ki n n) := rn_next (q := (pc + 3, L, (1, h 3 0 0) :: S, vnew h ki n n)) (by rw [vact_of d rfl]; show (match vaq (vmC m) k with | some ki => if 0 ≤ n ∧ n ≤ 100000 then vgo (pc + 3) L ((1, h 3 0 0) :: S) (vnew h (ki : Int) n n) else none | none => none) = _; rw [hk]; exact if_pos hn)
theorem rn_arraylength {r : Int} (d : decode (vmB m) pc = .ok (.arraylength, 1)) (hr : vlen h r = true) : vrun m pc L ((1, r) :: S) h = vrun m (pc + 1) (L) ((0, h 1 r 0) :: S) (h) := rn_next (q := (pc + 1, L, (0, h 1 r 0) :: S, h)) (by rw [vact_of d rfl]; exact if_pos hr)
theorem rn_iaload {r i : Int} (d : decode (vmB m) pc = .ok (.iaload, 1)) (hr : (h 0 r 0 = 1 ∨ h 0 r 0 = 11) ∧ vin h r i = true) : vrun m pc L ((0, i) :: (1, r) :: S) h = vrun m (pc + 1) (L) ((0, h 2 r i) :: S) (h) := rn_next (q := (pc + 1, L, (0, h 2 r i) :: S, h)) (by rw [vact_of d rfl]; exact if_pos hr)
theorem rn_baload {r i : Int} (d : decode (vmB m) pc = .ok (.baload, 1)) (hr : h 0 r 0 = 2 ∧ vin h r i = true) : vrun m pc L ((0, i) :: (1, r) :: S) h = vrun m (pc + 1) (L) ((0, h 2 r i) :: S) (h) := rn_next (q := (pc + 1, L, (0, h 2 r i) :: S, h)) (by rw [vact_of d rfl]; exact if_pos hr)
theorem rn_aaload {r i : Int} (d : decode (vmB m) pc = .ok (.aaload, 1)) (hr : (h 0 r 0 = 4 ∨ h 0 r 0 = 5 ∨ h 0 r 0 = 6) ∧ vin h r i = true) : vrun m pc L ((0, i) :: (1, r) :: S) h = vrun m (pc + 1) (L) ((1, h 2 r i) :: S) (h) := rn_next (q := (pc + 1, L, (1, h 2 r i) :: S, h)) (by rw [vact_of d rfl]; exact if_pos hr)
theorem rn_iastore {r i v : Int} (d : decode (vmB m) pc = .ok (.iastore, 1)) (hr : h 0 r 0 = 1 ∧ vin h r i = true) : vrun m pc L ((0, v) :: (0, i) :: (1, r) :: S) h = vrun m (pc + 1) (L) (S) (vup h 2 r i v) := rn_next (q := (pc + 1, L, S, vup h 2 r i v)) (by rw [vact_of d rfl]; exact if_pos hr)
theorem rn_bastore {r i v : Int} (d : decode (vmB m) pc = .ok (.bastore, 1)) (hr : h 0 r 0 = 2 ∧ vin h r i = true ∧ (v = 0 ∨ v = 1)) : vrun m pc L ((0, v) :: (0, i) :: (1, r) :: S) h = vrun m (pc + 1) (L) (S) (vup h 2 r i v) := rn_next (q := (pc + 1, L, S, vup h 2 r i v)) (by rw [vact_of d rfl]; exact if_pos hr)
theorem rn_aastore {r i v : Int} (d : decode (vmB m) pc = .ok (.aastore, 1)) (hr : vin h r i = true ∧ ((h 0 r 0 = 4 ∧ (v = 0 ∨ h 0 v 0 = 25)) ∨ (h 0 r 0 = 5 ∧ (v = 0 ∨ h 0 v 0 = 26)) ∨ (h 0 r 0 = 6 ∧ (v = 0 ∨ h 0 v 0 = 22 ∨ h 0 v 0 = 29 ∨ h 0 v 0 = 32)))) : vrun m pc L ((1, v) :: (0, i) :: (1, r) :: S) h = vrun m (pc + 1) (L) (S) (vup h 2 r i v) := rn_next (q := (pc + 1, L, S, vup h 2 r i v)) (by rw [vact_of d rfl]; exact if_pos hr)
theorem rn_checkcast {k ci : Nat} {r : Int} (d : decode (vmB m) pc = .ok (.checkcast k, 3)) (hk : vcc (vmC m) k = some ci) (hr : r = 0 ∨ h 0 r 0 = 20 + (ci : Int)) : vrun m pc L ((1, r) :: S) h = vrun m (pc + 3) (L) ((1, r) :: S) (h) := rn_next (q := (pc + 3, L, (1, r) :: S, h)) (by rw [vact_of d rfl]; show (match vcc (vmC m) k with | some ci => if r = 0 ∨ h 0 r 0 = 20 + (ci : Int) then vgo (pc + 3) L ((1, r) :: S) h else none | none => none) = _; rw [hk]; exact if_pos hr)
theorem rn_ireturn {x : Int} (d : decode (vmB m) pc = .ok (.ireturn, 1)) (hr : vmR m = some .int ∨ (vmR m = some .boolean ∧ (x = 0 ∨ x = 1))) : vrun m pc L [(0, x)] h = some (.inl (some (0, x)), h) := rn_done (by rw [vact_of d rfl]; exact if_pos hr)
theorem rn_areturn {x : Int} (d : decode (vmB m) pc = .ok (.areturn, 1)) (hr : vobj (vmR m) = true) : vrun m pc L [(1, x)] h = some (.inl (some (1, x)), h) := rn_done (by rw [vact_of d rfl]; exact if_pos hr)
theorem rn_return (d : decode (vmB m) pc = .ok (.return_, 1)) (hr : vmR m = none) : vrun m pc L [] h = some (.inl none, h) := rn_done (by rw [vact_of d rfl]; exact if_pos hr)
theorem vcall_of {y : vM} {as rest : List vv} (hc : vcat rest ≤ 8 ∧ vmF y + 1 ≤ vmF m ∧ 8 + (vmL y + 11) + vmW y ≤ vmW m ∧ (vents as).length ≤ vmL y) : vcall m y pc as rest = some (.inr (.inr (y, as, rest))) := if_pos hc
theorem rn_virtual {k kd ci n : Nat} {y : vM} {b : Int} {rest : List vv} (d : decode (vmB m) pc = .ok (.invokevirtual k, 3)) (hv : vrs (vmC m) k = some (kd, ci, n, y)) (hs : S.drop n = (1, b) :: rest) (hb : kd < 2 ∧ h 0 b 0 = 20 + (ci : Int)) {as : List vv} (ha : (1, b) :: (S.take n).reverse = as) (hc : vcat rest ≤ 8 ∧ vmF y + 1 ≤ vmF m ∧ 8 + (vmL y + 11) + vmW y ≤ vmW m ∧ (vents as).length ≤ vmL y) : vrun m pc L S h = vret vrun m pc L rest (vcl y as h) := rn_callR (by
  rw [vact_of d rfl]
  show (match vrs (vmC m) k with
      | some q => (match S.drop q.2.2.1 with
        | (1, b) :: rest => if q.1 < 2 ∧ h 0 b 0 = 20 + (q.2.1 : Int) then vcall m q.2.2.2 pc ((1, b) :: (S.take q.2.2.1).reverse) rest else none
        | _ => none)
      | none => none) = _
  rw [hv]
  show (match S.drop n with
        | (1, b) :: rest => if kd < 2 ∧ h 0 b 0 = 20 + (ci : Int) then vcall m y pc ((1, b) :: (S.take n).reverse) rest else none
        | _ => none) = _
  rw [hs]
  refine (if_pos hb).trans ?_
  rw [ha]; exact vcall_of hc)
theorem rn_special {k kd ci n : Nat} {y : vM} {b : Int} {rest : List vv} (d : decode (vmB m) pc = .ok (.invokespecial k, 3)) (hv : vrs (vmC m) k = some (kd, ci, n, y)) (hs : S.drop n = (1, b) :: rest) (hb : ¬ b = 0) (hk : ¬ kd = 6 ∧ (kd = 4 ∨ kd = 5)) {as : List vv} (ha : (1, b) :: (S.take n).reverse = as) (hc : vcat rest ≤ 8 ∧ vmF y + 1 ≤ vmF m ∧ 8 + (vmL y + 11) + vmW y ≤ vmW m ∧ (vents as).length ≤ vmL y) : vrun m pc L S h = vret vrun m pc L rest (vcl y as h) := rn_callR (by
  rw [vact_of d rfl]
  show (match vrs (vmC m) k with
      | some q => (match S.drop q.2.2.1 with
        | (1, b) :: rest => if b = 0 then none else if q.1 = 6 then (if vcat rest ≤ 8 ∧ 1 ≤ vmF m ∧ 20 ≤ vmW m then vgo (pc + 3) L rest h else none) else if q.1 = 4 ∨ q.1 = 5 then vcall m q.2.2.2 pc ((1, b) :: (S.take q.2.2.1).reverse) rest else none
        | _ => none)
      | none => none) = _
  rw [hv]
  show (match S.drop n with
        | (1, b) :: rest => if b = 0 then none else if kd = 6 then (if vcat rest ≤ 8 ∧ 1 ≤ vmF m ∧ 20 ≤ vmW m then vgo (pc + 3) L rest h else none) else if kd = 4 ∨ kd = 5 then vcall m y pc ((1, b) :: (S.take n).reverse) rest else none
        | _ => none) = _
  rw [hs]
  refine (if_neg hb).trans ((if_neg hk.1).trans ((if_pos hk.2).trans ?_))
  rw [ha]; exact vcall_of hc)
theorem rn_object {k ci n : Nat} {y : vM} {b : Int} {rest : List vv} (d : decode (vmB m) pc = .ok (.invokespecial k, 3)) (hv : vrs (vmC m) k = some (6, ci, n, y)) (hs : S.drop n = (1, b) :: rest) (hb : ¬ b = 0) (hc : vcat rest ≤ 8 ∧ 1 ≤ vmF m ∧ 20 ≤ vmW m) : vrun m pc L S h = vrun m (pc + 3) L rest h := rn_next (q := (pc + 3, L, rest, h)) (by
  rw [vact_of d rfl]
  show (match vrs (vmC m) k with
      | some q => (match S.drop q.2.2.1 with
        | (1, b) :: rest => if b = 0 then none else if q.1 = 6 then (if vcat rest ≤ 8 ∧ 1 ≤ vmF m ∧ 20 ≤ vmW m then vgo (pc + 3) L rest h else none) else if q.1 = 4 ∨ q.1 = 5 then vcall m q.2.2.2 pc ((1, b) :: (S.take q.2.2.1).reverse) rest else none
        | _ => none)
      | none => none) = _
  rw [hv]
  show (match S.drop n with
        | (1, b) :: rest => if b = 0 then none else if (6 : Nat) = 6 then (if vcat rest ≤ 8 ∧ 1 ≤ vmF m ∧ 20 ≤ vmW m then vgo (pc + 3) L rest h else none) else if (6 : Nat) = 4 ∨ (6 : Nat) = 5 then vcall m y pc ((1, b) :: (S.take n).reverse) rest else none
        | _ => none) = _
  rw [hs]
  exact (if_neg hb).trans ((if_pos rfl).trans (if_pos hc)))
theorem rn_static {k kd ci n : Nat} {y : vM} (d : decode (vmB m) pc = .ok (.invokestatic k, 3)) (hv : vrs (vmC m) k = some (kd, ci, n, y)) (hk : ¬ kd = 7 ∧ ¬ kd = 8 ∧ ¬ kd = 9 ∧ (n ≤ S.length ∧ (kd = 2 ∨ kd = 3 ∨ kd = 10))) {as rest : List vv} (ha : (S.take n).reverse = as) (hs : S.drop n = rest) (hc : vcat rest ≤ 8 ∧ vmF y + 1 ≤ vmF m ∧ 8 + (vmL y + 11) + vmW y ≤ vmW m ∧ (vents as).length ≤ vmL y) : vrun m pc L S h = vret vrun m pc L rest (vcl y as h) := rn_callR (by
  subst ha hs
  rw [vact_of d rfl]
  show (match vrs (vmC m) k with
      | some q => if q.1 = 7 then _ else if q.1 = 8 then _ else if q.1 = 9 then _
        else if q.2.2.1 ≤ S.length ∧ (q.1 = 2 ∨ q.1 = 3 ∨ q.1 = 10) then vcall m q.2.2.2 pc (S.take q.2.2.1).reverse (S.drop q.2.2.1) else none
      | none => none) = _
  rw [hv]
  exact (if_neg hk.1).trans ((if_neg hk.2.1).trans ((if_neg hk.2.2.1).trans ((if_pos hk.2.2.2).trans (vcall_of hc)))))
theorem rn_copy {k ci nn : Nat} {y : vM} {n dp sp a b : Int} (d : decode (vmB m) pc = .ok (.invokestatic k, 3)) (hv : vrs (vmC m) k = some (7, ci, nn, y)) (hc : 0 ≤ n ∧ 0 ≤ sp ∧ 0 ≤ dp ∧ sp + n ≤ h 1 a 0 ∧ dp + n ≤ h 1 b 0 ∧ vcpok h a sp b n ∧ vcat S ≤ 8 ∧ 1 ≤ vmF m ∧ 40 ≤ vmW m) : vrun m pc L ((0, n) :: (0, dp) :: (1, b) :: (0, sp) :: (1, a) :: S) h = vrun m (pc + 3) L S (vcp h a sp b dp n) := rn_next (q := (pc + 3, L, S, vcp h a sp b dp n)) (by
  rw [vact_of d rfl]
  show (match vrs (vmC m) k with
      | some q => if q.1 = 7 then @ite _ (0 ≤ n ∧ 0 ≤ sp ∧ 0 ≤ dp ∧ sp + n ≤ h 1 a 0 ∧ dp + n ≤ h 1 b 0 ∧ vcpok h a sp b n ∧ vcat S ≤ 8 ∧ 1 ≤ vmF m ∧ 40 ≤ vmW m) (Classical.propDecidable _) (vgo (pc + 3) L S (vcp h a sp b dp n)) none
        else _
      | none => none) = _
  rw [hv]
  exact (if_pos rfl).trans (if_pos hc))
theorem rn_max {k ci nn : Nat} {y : vM} {a b : Int} (d : decode (vmB m) pc = .ok (.invokestatic k, 3)) (hv : vrs (vmC m) k = some (8, ci, nn, y)) (hc : vcat S ≤ 8 ∧ 1 ≤ vmF m ∧ 40 ≤ vmW m) : vrun m pc L ((0, b) :: (0, a) :: S) h = vrun m (pc + 3) L ((0, if a < b then b else a) :: S) h := rn_next (q := (pc + 3, L, (0, if a < b then b else a) :: S, h)) (by
  rw [vact_of d rfl]
  show (match vrs (vmC m) k with
      | some q => if q.1 = 7 then _ else if q.1 = 8 then (if vcat S ≤ 8 ∧ 1 ≤ vmF m ∧ 40 ≤ vmW m then vgo (pc + 3) L ((0, if a < b then b else a) :: S) h else none) else _
      | none => none) = _
  rw [hv]
  exact (if_neg (by decide : ¬ 8 = 7)).trans ((if_pos rfl).trans (if_pos hc)))
theorem rn_min {k ci nn : Nat} {y : vM} {a b : Int} (d : decode (vmB m) pc = .ok (.invokestatic k, 3)) (hv : vrs (vmC m) k = some (9, ci, nn, y)) (hc : vcat S ≤ 8 ∧ 1 ≤ vmF m ∧ 40 ≤ vmW m) : vrun m pc L ((0, b) :: (0, a) :: S) h = vrun m (pc + 3) L ((0, if b < a then b else a) :: S) h := rn_next (q := (pc + 3, L, (0, if b < a then b else a) :: S, h)) (by
  rw [vact_of d rfl]
  show (match vrs (vmC m) k with
      | some q => if q.1 = 7 then _ else if q.1 = 8 then _ else if q.1 = 9 then (if vcat S ≤ 8 ∧ 1 ≤ vmF m ∧ 40 ≤ vmW m then vgo (pc + 3) L ((0, if b < a then b else a) :: S) h else none) else _
      | none => none) = _
  rw [hv]
  exact (if_neg (by decide : ¬ 9 = 7)).trans ((if_neg (by decide : ¬ 9 = 8)).trans ((if_pos rfl).trans (if_pos hc))))
theorem vret_v {rest : List vv} {v : vv} {h2 : vH} {o : Option (vR × vH)} (e : o = some (.inl (some v), h2)) : vret vrun m pc L rest o = vrun m (pc + 3) L (v :: rest) h2 := by subst e; rfl
theorem vret_n {rest : List vv} {h2 : vH} {o : Option (vR × vH)} (e : o = some (.inl none, h2)) : vret vrun m pc L rest o = vrun m (pc + 3) L rest h2 := by subst e; rfl
theorem vret_x {rest : List vv} {E : String} {h2 : vH} {o : Option (vR × vH)} (e : o = some (.inr E, h2)) (hh : vmH m = []) : vret vrun m pc L rest o = some (.inr E, h2) := by subst e; exact if_pos hh
end RN2
