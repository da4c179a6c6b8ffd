/-! runs with an end that is asked for -/
def Ru (Q : vR → vH → Prop) (X : Option (vR × vH)) : Prop := ∃ r h', X = some (r, h') ∧ Q r h'
theorem ru {Q : vR → vH → Prop} {x y : Option (vR × vH)} (e : x = y) (q : Ru Q y) : Ru Q x := e ▸ q
theorem ru_end {Q : vR → vH → Prop} {x : Option (vR × vH)} {r : vR} {h : vH} (e : x = some (r, h)) (q : Q r h) : Ru Q x := ⟨r, h, e, q⟩
theorem and_in {a c : Int} (hc : 0 ≤ c ∧ c ≤ 1000000000) : 0 ≤ (vi32 a &&& vi32 c).toInt ∧ (vi32 a &&& vi32 c).toInt ≤ c := by
  have e : (vi32 a &&& vi32 c).toInt = ((vi32 a).toBitVec &&& (vi32 c).toBitVec).toInt := rfl
  have ec : (vi32 c).toBitVec.toNat = c.toNat := by
    show (BitVec.ofInt 32 c).toNat = _
    rw [BitVec.toNat_ofInt, show ((2 ^ 32 : Nat) : Int) = 4294967296 from rfl, Int.emod_eq_of_lt hc.1 (by omega)]
  have le : ((vi32 a).toBitVec &&& (vi32 c).toBitVec).toNat ≤ c.toNat := by
    rw [BitVec.toNat_and, ec]
    exact Nat.and_le_right
  rw [e, BitVec.toInt_eq_toNat_of_lt (by omega)]
  omega
theorem shr_in {a b : Int} (ca : c32 a) (h : 0 ≤ a) : 0 ≤ (vi32 a >>> (vi32 b &&& 31)).toInt := by
  have ma : (vi32 a).toBitVec.msb = false := by
    show (BitVec.ofInt 32 a).msb = false
    rw [BitVec.msb_eq_toInt, BitVec.toInt_ofInt]
    have : Int.bmod a (2 ^ 32) = a := w32_in ca.1 ca.2
    rw [this]
    exact decide_eq_false (by omega)
  have e : (vi32 a >>> (vi32 b &&& 31)).toInt = ((vi32 a).toBitVec.sshiftRight' (((vi32 b &&& 31).toBitVec).smod 32)).toInt := rfl
  have m : ((vi32 a).toBitVec.sshiftRight' (((vi32 b &&& 31).toBitVec).smod 32)).msb = false := by
    rw [BitVec.msb_sshiftRight']
    exact ma
  rw [e]
  rw [BitVec.msb_eq_toInt] at m
  have := of_decide_eq_false m
  omega
section ABS
variable {m : vM} {pc : Nat} {L S : List vv} {h : vH} {Q : vR → vH → Prop}
theorem ab_iadd {a b : Int} (d : decode (vmB m) pc = .ok (.iadd, 1)) (k : ∀ v, c32 v → Ru Q (vrun m (pc + 1) L ((0, v) :: S) h)) : Ru Q (vrun m pc L ((0, b) :: (0, a) :: S) h) := ru (rn_iadd d) (k _ (w32_c _))
theorem ab_imul {a b : Int} (d : decode (vmB m) pc = .ok (.imul, 1)) (k : ∀ v, c32 v → Ru Q (vrun m (pc + 1) L ((0, v) :: S) h)) : Ru Q (vrun m pc L ((0, b) :: (0, a) :: S) h) := ru (rn_imul d) (k _ (w32_c _))
theorem ab_ishr {a b : Int} (d : decode (vmB m) pc = .ok (.ishr, 1)) (ca : c32 a) (k : ∀ v, c32 v → (0 ≤ a → 0 ≤ v) → Ru Q (vrun m (pc + 1) L ((0, v) :: S) h)) : Ru Q (vrun m pc L ((0, b) :: (0, a) :: S) h) := ru (rn_ishr d) (k _ (vI_ok (n := 0) _) (fun z => shr_in ca z))
theorem ab_iand {a b : Int} (d : decode (vmB m) pc = .ok (.iand, 1)) (hb : 0 ≤ b ∧ b ≤ 1000000000) (k : ∀ v, 0 ≤ v ∧ v ≤ b → Ru Q (vrun m (pc + 1) L ((0, v) :: S) h)) : Ru Q (vrun m pc L ((0, b) :: (0, a) :: S) h) := ru (rn_iand d) (k _ (and_in hb))
theorem ab_irem {a b : Int} (d : decode (vmB m) pc = .ok (.irem, 1)) (hb : 0 < b) (ha : 0 ≤ a) (k : ∀ v, 0 ≤ v ∧ v < b → Ru Q (vrun m (pc + 1) L ((0, v) :: S) h)) : Ru Q (vrun m pc L ((0, b) :: (0, a) :: S) h) := ru (rg_irem d hb ha) (k _ ⟨Int.emod_nonneg _ (by omega), Int.emod_lt_of_pos _ hb⟩)
theorem vret_h1 {rest : List vv} {h2 : vH} {E : String} {o : Option (vR × vH)} {x : vE} {hd : Nat} {k : Fin 4} {L2 : List vv} (e : o = some (.inr E, h2)) (hh : vhand (vmH m) pc E = some x) (hx : x.2.2.1 = hd) (d : decode (vmB m) hd = .ok (.astore_n k, 1)) (hk : k.val < L.length) (hl : vset L k.val (9, 0) = L2) : vret vrun m pc L rest o = vrun m (hd + 1) L2 [] h2 := by
  subst e; subst hx; subst hl
  have n : ¬ vmH m = [] := fun n => by rw [n] at hh; cases hh
  refine (if_neg n).trans ?_
  rw [hh]
  show (match decode (vmB m) x.2.2.1 with
      | .ok (.astore_n k, 1) => if k.val < L.length then vrun m (x.2.2.1 + 1) (vset L k.val (9, 0)) [] h2 else none
      | .ok (.astore k, 2) => if k < L.length then vrun m (x.2.2.1 + 2) (vset L k (9, 0)) [] h2 else none
      | _ => none) = _
  rw [d]
  exact if_pos hk
theorem vret_h2 {rest : List vv} {h2 : vH} {E : String} {o : Option (vR × vH)} {x : vE} {hd k : Nat} {L2 : List vv} (e : o = some (.inr E, h2)) (hh : vhand (vmH m) pc E = some x) (hx : x.2.2.1 = hd) (d : decode (vmB m) hd = .ok (.astore k, 2)) (hk : k < L.length) (hl : vset L k (9, 0) = L2) : vret vrun m pc L rest o = vrun m (hd + 2) L2 [] h2 := by
  subst e; subst hx; subst hl
  have n : ¬ vmH m = [] := fun n => by rw [n] at hh; cases hh
  refine (if_neg n).trans ?_
  rw [hh]
  show (match decode (vmB m) x.2.2.1 with
      | .ok (.astore_n k, 1) => if k.val < L.length then vrun m (x.2.2.1 + 1) (vset L k.val (9, 0)) [] h2 else none
      | .ok (.astore k, 2) => if k < L.length then vrun m (x.2.2.1 + 2) (vset L k (9, 0)) [] h2 else none
      | _ => none) = _
  rw [d]
  exact if_pos hk
end ABS
