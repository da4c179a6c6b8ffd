abbrev rA2 : List Int := [315, 320, 318]
/-- the rows of the reference, as they stand behind laysRows -/
def mRs (h : vH) (s : Int → Int) (n : Nat) (W d : Int) (R : Nat) : Prop := isR s n W d R ∧ R ≤ 131 ∧ h 1541 282 0 = (R : Int) ∧ (∀ j : Nat, j < R → h 2 320 j = rSt s n W d j) ∧ h 2 320 R = (n : Int) ∧ (∀ j : Nat, j < R → ∀ k, rSt s n W d j ≤ k → k < rSt s n W d (j + 1) → h 2 315 k = rWd s n W (rSt s n W d j) (if j = 0 then 0 else d) k ∧ h 2 318 k = (j : Int))
section ML
variable {h : vH} {p W d : Int} {n : Nat} {s : Int → Int}
theorem isR_end (h0 : 0 ≤ (n : Int)) (hd : 0 ≤ d ∧ d ≤ 4) (hW : 10 ≤ W) {R : Nat} (r : isR s n W d R) : rSt s n W d R = n := by
  have a := rSt_in (s := s) (n := n) (W := W) (d := d) h0 hd hW R
  have := r.2.1
  omega
theorem rSt_up (hd : 0 ≤ d ∧ d ≤ 4) (hW : 10 ≤ W) (i : Nat) : rSt s n W d i ≤ rSt s n W d (i + 1) := by
  have a := rSt_in (s := s) (n := n) (W := W) (d := d) (by omega) hd hW i
  by_cases z : rSt s n W d i < n
  · have := a.2.2 z; omega
  · have e9 : rSt s n W d i = n := by omega
    have : rSt s n W d (i + 1) = n := by
      show rNx s n W (rSt s n W d i) (if i = 0 then 0 else d) = n
      have b2 := rB_in (s := s) (n := n) (W := W) (st := rSt s n W d i) (c := if i = 0 then 0 else d) a.2.1
      have a2 := rE_in (s := s) (n := n) (W := W) (st := rSt s n W d i) (c := if i = 0 then 0 else d) a.2.1
      unfold rNx
      rw [if_pos (by omega)]
      omega
    omega
theorem rSt_mono (hd : 0 ≤ d ∧ d ≤ 4) (hW : 10 ≤ W) {i j : Nat} (h : i ≤ j) : rSt s n W d i ≤ rSt s n W d j := by
  induction h with
  | refl => exact Int.le_refl _
  | step _ ih => exact Int.le_trans ih (rSt_up hd hW _)
theorem M_num (sM : shModel h) {R : Nat} (hR : R ≤ 131) (h131 : n ≤ 131) (hd : 0 ≤ d ∧ d ≤ 4) (hW : 10 ≤ W) (hf : ∀ j : Nat, j ≤ R → h 2 320 j = rSt s n W d j) (hn : h 1541 282 0 = (R : Int)) {x2 : Int} : ∀ (m i : Nat) (h1 : vH) (v4 : vv), i + m = R → mF [318] [] h h1 → (∀ j : Nat, j < i → ∀ k, rSt s n W d j ≤ k → k < rSt s n W d (j + 1) → h1 2 318 k = (j : Int)) →
    ∃ h2, vrun mX13_laysRows 204 [(1, 282), (0, p), (0, x2), (0, i), v4] [] h1 = some (.inl none, h2) ∧ mF [318] [] h h2 ∧ (∀ j : Nat, j < R → ∀ k, rSt s n W d j ≤ k → k < rSt s n W d (j + 1) → h2 2 318 k = (j : Int)) := by
  intro m
  induction m with
  | zero =>
    intro i h1 v4 hi hF ho
    have sM1 := shModel_sx (mF_sx hF (by decide)) sM
    have e1 : h1 1541 282 0 = (R : Int) := (hF _ _ _ (by simp) (by simp)).trans hn
    refine ⟨h1, ?_, hF, fun j hj => ho j (by omega)⟩
    rw [rX13_laysRows_204 sM1, if_pos (by omega)]
    all_goals (first | (intros; omega) | assumption)
  | succ m ih =>
    intro i h1 v4 hi hF ho
    have sM1 := shModel_sx (mF_sx hF (by decide)) sM
    have e1 : h1 1541 282 0 = (R : Int) := (hF _ _ _ (by simp) (by simp)).trans hn
    have e2 : h1 2 320 i = rSt s n W d i := (hF _ _ _ (by simp) (by simp)).trans (hf i (by omega))
    have p0 := rSt_in (s := s) (n := n) (W := W) (d := d) (by omega) hd hW i
    have p1 := rSt_in (s := s) (n := n) (W := W) (d := d) (by omega) hd hW (i + 1)
    have up := rSt_up (s := s) (n := n) hd hW i
    have inner : ∀ (f : Nat) (k : Int) (h1 : vH), rSt s n W d (i + 1) = k + f → rSt s n W d i ≤ k → mF [318] [] h h1 → (∀ j : Nat, j < i → ∀ k, rSt s n W d j ≤ k → k < rSt s n W d (j + 1) → h1 2 318 k = (j : Int)) → (∀ q, rSt s n W d i ≤ q → q < k → h1 2 318 q = (i : Int)) → ∃ h2 y, vrun mX13_laysRows 220 [(1, 282), (0, p), (0, x2), (0, i), (0, k)] [] h1 = vrun mX13_laysRows 204 [(1, 282), (0, p), (0, x2), (0, (i : Int) + 1), (0, y)] [] h2 ∧ mF [318] [] h h2 ∧ (∀ j : Nat, j < i + 1 → ∀ k, rSt s n W d j ≤ k → k < rSt s n W d (j + 1) → h2 2 318 k = (j : Int)) := by
      intro f
      induction f with
      | zero =>
        intro k h1 hk h0 hF ho hq
        have sM1 := shModel_sx (mF_sx hF (by decide)) sM
        have e3 : h1 2 320 ((i : Int) + 1) = rSt s n W d (i + 1) := (hF _ _ _ (by simp) (by simp)).trans (hf (i + 1) (by omega))
        refine ⟨h1, k, ?_, hF, fun j hj q a b => ?_⟩
        · rw [rX13_laysRows_220 sM1, if_pos (by omega)]
          all_goals (first | (intros; omega) | assumption)
        · by_cases z : j = i
          · subst z; exact hq q a (by omega)
          · exact ho j (by omega) q a b
      | succ f ih2 =>
        intro k h1 hk h0 hF ho hq
        have sM1 := shModel_sx (mF_sx hF (by decide)) sM
        have e3 : h1 2 320 ((i : Int) + 1) = rSt s n W d (i + 1) := (hF _ _ _ (by simp) (by simp)).trans (hf (i + 1) (by omega))
        obtain ⟨h2, y, a, b⟩ := ih2 (k + 1) (vup h1 2 318 k i) (by omega) (by omega) (mF_up hF (Or.inl ⟨rfl, by decide⟩)) (fun j hj q a b => by
          have := rSt_mono (s := s) (n := n) hd hW (show j + 1 ≤ i by omega)
          rw [vup_2, if_neg (by omega)]
          exact ho j hj q a b) (fun q a b => by
          rw [vup_2]
          by_cases z : q = k
          · rw [if_pos z]
          · rw [if_neg z]
            exact hq q a (by omega))
        refine ⟨h2, y, ?_, b⟩
        rw [rX13_laysRows_220 sM1, if_neg (by omega), a]
        all_goals (first | (intros; omega) | assumption)
    obtain ⟨h2, y, a1, a2, a3⟩ := inner (rSt s n W d (i + 1) - rSt s n W d i).toNat (rSt s n W d i) h1 (by omega) (Int.le_refl _) hF ho (fun q a b => by omega)
    obtain ⟨h3, b1, b2, b3⟩ := ih (i + 1) h2 (0, y) (by omega) a2 a3
    refine ⟨h3, ?_, b2, b3⟩
    rw [rX13_laysRows_204 sM1, if_neg (by omega), e2, a1]
    · exact b1
    all_goals (first | (intros; omega) | assumption)
/-- THE REFERENCE LAYS THE ROWS OF A LINE -/
theorem M_laysRows (sM : shModel h) (hp : 0 ≤ p ∧ p < 4) (hn : h 1540 282 0 = (n : Int)) (h131 : n ≤ 131) (hs : ∀ k : Int, 0 ≤ k → k < n → h 2 311 k = s k) (hW : h 2 286 p = W) (hW2 : 10 ≤ W ∧ W ≤ 40) (hd : h 2 287 p = d) (hd2 : 0 ≤ d ∧ d ≤ 4) :
    ∃ h2 R, vcl mX13_laysRows [(1, 282), (0, p)] h = some (.inl none, h2) ∧ mF rA2 rK h h2 ∧ mRs h2 s n W d R := by
  have hF0 : mF rA rK h (vup h 1541 282 0 0) := mF_up mF_rf (Or.inr ⟨rfl, by decide⟩)
  obtain ⟨h2, R, v5, a1, a2, a3, a4, a5, a6, a7⟩ := M_rows (s := s) sM hp hn h131 hs hW hW2 hd hd2 (n + 2) 0 (9, 0) (9, 0) _ (by omega) (Or.inl rfl) hF0 vup_s ⟨fun j hj => absurd hj (Nat.not_lt_zero j), fun j hj => absurd hj (Nat.not_lt_zero j)⟩
  have en := isR_end (by omega) hd2 hW2.1 a2
  obtain ⟨h3, b1, b2, b3⟩ := M_num (p := p) (s := s) (x2 := rSt s n W d R) (shModel_sx (mF_sx a4 (by decide)) sM) a3 h131 hd2 hW2.1 (fun j hj => by
    by_cases z : j = R
    · subst z; rw [a7, en]
    · exact a6.1 j (by omega)) a5 R 0 h2 v5 (by omega) mF_rf (fun j hj => absurd hj (Nat.not_lt_zero j))
  refine ⟨h3, R, ?_, mF_tr (mF_le a4 (by decide) (by decide)) (mF_le b2 (by decide) (by decide)), a2, a3, (b2 _ _ _ (by simp) (by simp)).trans a5, fun j hj => (b2 _ _ _ (by simp) (by simp)).trans (a6.1 j hj), (b2 _ _ _ (by simp) (by simp)).trans a7, fun j hj k q1 q2 => ⟨(b2 _ _ _ (by simp) (by simp)).trans (a6.2 j hj k q1 q2), b3 j hj k q1 q2⟩⟩
  refine (rX13_laysRows_0 sM).trans ?_
  refine Eq.trans ?_ (a1.trans b1)
  rfl
end ML
