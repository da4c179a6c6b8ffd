section ML
variable {h : vH} {p W d : Int} {n : Nat} {s : Int → Int}
theorem isR_end (h0 : 0 ≤ (n : Int)) (hd : 0 ≤ d ∧ d ≤ 4) (hW : 10 ≤ W) {R : Nat} (r : isR s n W d R) : rSt s n W d R = n := by
  have a := rSt_in (s := s) (n := n) (W := W) (d := d) h0 hd hW R
  have := r.2.1
  omega
theorem rSt_up (hd : 0 ≤ d ∧ d ≤ 4) (hW : 10 ≤ W) (i : Nat) : rSt s n W d i ≤ rSt s n W d (i + 1) := by
  have a := rSt_in (s := s) (n := n) (W := W) (d := d) (by omega) hd hW i
  by_cases z : rSt s n W d i < n
  · have := a.2.2 z; omega
  · have e9 : rSt s n W d i = n := by omega
    have : rSt s n W d (i + 1) = n := by
      show rNx s n W (rSt s n W d i) (if i = 0 then 0 else d) = n
      have b2 := rB_in (s := s) (n := n) (W := W) (st := rSt s n W d i) (c := if i = 0 then 0 else d) a.2.1
      have a2 := rE_in (s := s) (n := n) (W := W) (st := rSt s n W d i) (c := if i = 0 then 0 else d) a.2.1
      unfold rNx
      rw [if_pos (by omega)]
      omega
    omega
theorem rSt_mono (hd : 0 ≤ d ∧ d ≤ 4) (hW : 10 ≤ W) {i j : Nat} (h : i ≤ j) : rSt s n W d i ≤ rSt s n W d j := by
  induction h with
  | refl => exact Int.le_refl _
  | step _ ih => exact Int.le_trans ih (rSt_up hd hW _)
end ML

