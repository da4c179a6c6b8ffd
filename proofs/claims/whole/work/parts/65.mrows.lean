/-- where an array holds another value -/
theorem vup_2 {h : vH} {k : Nat} {r i j v : Int} : vup h k r i v k r j = if j = i then v else h k r j := by
  unfold vup
  by_cases e : j = i
  · rw [if_pos ⟨rfl, rfl, e⟩, if_pos e]
  · rw [if_neg (fun z => e z.2.2), if_neg e]
abbrev rA : List Int := [315, 320]
abbrev rK : List Nat := [1541]
theorem M_width {h : vH} {k x : Int} : fX13_widthOf h k x = wd (h 2 311 k) x := rfl
theorem M_blank {h : vH} {k : Int} : fX13_isBlank h k = b2i (bl (h 2 311 k)) := b2i_if
section MR
variable {h : vH} {p W : Int} {n : Nat} {s : Int → Int}
/-- the first loop of a row: what fits -/
theorem M_fit (sM : shModel h) (hp : 0 ≤ p ∧ p < 4) (hn : h 1540 282 0 = (n : Int)) (h140 : n ≤ 140) (hs : ∀ k : Int, 0 ≤ k → k < n → h 2 311 k = s k) (hW : h 2 286 p = W) (hW2 : W ≤ 40) : ∀ (f : Nat) (k x y : Int) (h1 : vH), (n : Int) ≤ k + f → 0 ≤ k → 0 ≤ x → x ≤ 44 → mF [315] [] h h1 →
    ∃ h2 x2, vrun mX13_laysRows 53 [(1, 282), (0, p), (0, k), (0, x), (0, y)] [] h1 = vrun mX13_laysRows 123 [(1, 282), (0, p), (0, rFit s n W f k x), (0, x2), (0, rBh s (rFit s n W f k x - k).toNat k y)] [] h2 ∧ mF [315] [] h h2 ∧ (∀ j, k ≤ j → j < rFit s n W f k x → h2 2 315 j = wd (s j) (rPos s (j - k).toNat k x)) ∧ (∀ j, (j < k ∨ rFit s n W f k x ≤ j) → h2 2 315 j = h1 2 315 j) := by
  intro f
  induction f with
  | zero =>
    intro k x y h1 hf h0 hx hx2 hF
    have sM1 := shModel_sx (mF_sx hF (by decide)) sM
    have e1 : h1 1540 282 0 = (n : Int) := (hF _ _ _ (by simp) (by simp)).trans hn
    refine ⟨h1, x, ?_, hF, fun j a b => ?_, fun j _ => rfl⟩
    · rw [rX13_laysRows_53 sM1, if_pos (by omega), show rFit s n W 0 k x = k from rfl, Int.sub_self]
      · rfl
      all_goals (first | (intros; omega) | assumption)
    · have : rFit s n W 0 k x = k := rfl
      omega
  | succ f ih =>
    intro k x y h1 hf h0 hx hx2 hF
    have sM1 := shModel_sx (mF_sx hF (by decide)) sM
    have e1 : h1 1540 282 0 = (n : Int) := (hF _ _ _ (by simp) (by simp)).trans hn
    have e2 : h1 2 286 p = W := (hF _ _ _ (by simp) (by simp)).trans hW
    have hd : rFit s n W (f + 1) k x = if (n : Int) ≤ k then k else if W < x + wd (s k) x then k else rFit s n W f (k + 1) (x + wd (s k) x) := rfl
    have w := wd_le (g := s k) hx
    by_cases c : (n : Int) ≤ k
    · rw [if_pos c] at hd
      refine ⟨h1, x, ?_, hF, fun j a b => by omega, fun j _ => rfl⟩
      rw [rX13_laysRows_53 sM1, if_pos (by omega), hd, Int.sub_self]
      · rfl
      all_goals (first | (intros; omega) | assumption)
    · have e3 : h1 2 311 k = s k := (hF _ _ _ (by simp) (by simp)).trans (hs k h0 (by omega))
      rw [if_neg c] at hd
      have e4 : fX13_widthOf h1 k x = wd (s k) x := by rw [M_width, e3]
      by_cases d : W < x + wd (s k) x
      · rw [if_pos d] at hd
        refine ⟨h1, x, ?_, hF, fun j a b => by omega, fun j _ => rfl⟩
        rw [rX13_laysRows_53 sM1, if_neg (by omega), if_pos (by rw [e4, e2]; exact d), hd, Int.sub_self]
        · rfl
        all_goals (try rw [e4])
        all_goals (try rw [vup_s])
        all_goals (first | (intros; omega) | assumption)
      · rw [if_neg d] at hd
        have hF2 : mF [315] [] h (vup h1 2 315 k (wd (s k) x)) := mF_up hF (Or.inl ⟨rfl, by decide⟩)
        obtain ⟨h2, x2, q1, q2, q3, q4⟩ := ih (k + 1) (x + wd (s k) x) (@ite _ (bl (s k)) (Classical.propDecidable _) (k + 1) y) _ (by omega) (by omega) (by omega) (by omega) hF2
        have g := rFit_ge (s := s) (n := n) (W := W) f (k + 1) (x + wd (s k) x)
        refine ⟨h2, x2, ?_, q2, ?_, ?_⟩
        · rw [rX13_laysRows_53 sM1, if_neg (by omega), if_neg (by rw [e4, e2]; exact d), e4, vup_s, M_blank, vup_r (by decide), e3, hd, show (rFit s n W f (k + 1) (x + wd (s k) x) - k).toNat = (rFit s n W f (k + 1) (x + wd (s k) x) - (k + 1)).toNat + 1 by omega]
          · refine Eq.trans ?_ q1
            congr 6
            by_cases b : bl (s k)
            · rw [if_pos b, if_neg (by rw [b2i_t b]; decide)]
            · rw [if_neg b, if_pos (b2i_f b)]
          all_goals (try rw [e4])
          all_goals (try rw [vup_s])
          all_goals (first | (intros; omega) | assumption)
        · intro j a b
          rw [hd] at b
          by_cases ej : j = k
          · subst ej
            rw [q4 j (Or.inl (by omega)), vup_s, Int.sub_self]
            rfl
          · rw [q3 j (by omega) b, show (j - k).toNat = (j - (k + 1)).toNat + 1 by omega]
            rfl
        · intro j a
          rw [hd] at a
          rw [q4 j (by omega), vup_2, if_neg (by omega)]
end MR
section MR2
variable {h : vH} {p W d : Int} {n : Nat} {s : Int → Int}
/-- the second loop of a row: the blanks behind it -/
theorem M_skip (sM : shModel h) (hn : h 1540 282 0 = (n : Int)) (h140 : n ≤ 140) (hs : ∀ k : Int, 0 ≤ k → k < n → h 2 311 k = s k) {x : Int} {i : Nat} (hi : i ≤ 141) : ∀ (f : Nat) (k y : Int) (h1 : vH), (n : Int) ≤ k + f → 0 ≤ k → k ≤ n → y ≤ k → mF rA rK h h1 → h1 1541 282 0 = (i : Int) →
    ∃ h2 y2, vrun mX13_laysRows 123 [(1, 282), (0, p), (0, k), (0, x), (0, y)] [] h1 = vrun mX13_laysRows 7 [(1, 282), (0, p), (0, if (n : Int) ≤ rBl s n f k then rBl s n f k else if (if k < rBl s n f k then rBl s n f k else y) = -1 then rBl s n f k else (if k < rBl s n f k then rBl s n f k else y)), (0, x), (0, y2)] [] h2 ∧ mF rA rK h h2 ∧ h2 1541 282 0 = (i : Int) + 1 ∧ (∀ j, k ≤ j → j < rBl s n f k → h2 2 315 j = 0) ∧ (∀ j, (j < k ∨ rBl s n f k ≤ j) → h2 2 315 j = h1 2 315 j) ∧ (∀ j, h2 2 320 j = h1 2 320 j) := by
  have stop : ∀ (k y : Int) (h1 : vH), 0 ≤ k → k ≤ n → mF rA rK h h1 → h1 1541 282 0 = (i : Int) → ((n : Int) ≤ k ∨ ¬ bl (s k)) →
      vrun mX13_laysRows 123 [(1, 282), (0, p), (0, k), (0, x), (0, y)] [] h1 = vrun mX13_laysRows 7 [(1, 282), (0, p), (0, if (n : Int) ≤ k then k else if y = -1 then k else y), (0, x), (0, y)] [] (vup h1 1541 282 0 ((i : Int) + 1)) := by
    intro k y h1 h0 hk hF hi1 hc
    have sM1 := shModel_sx (mF_sx hF (by decide)) sM
    have e1 : h1 1540 282 0 = (n : Int) := (hF _ _ _ (by simp) (by simp)).trans hn
    by_cases c : (n : Int) ≤ k
    · rw [rX13_laysRows_123 sM1, if_pos (by omega), e1, hi1]
      all_goals (first | (intros; omega) | assumption)
    · have e3 : h1 2 311 k = s k := (hF _ _ _ (by simp) (by simp)).trans (hs k h0 (by omega))
      rw [rX13_laysRows_123 sM1, if_neg (by omega), if_pos (by rw [M_blank, e3]; exact b2i_f (hc.resolve_left c)), e1, hi1]
      all_goals (first | (intros; omega) | assumption)
  intro f
  induction f with
  | zero =>
    intro k y h1 hf h0 hk hy hF hi1
    have e : rBl s n 0 k = k := rfl
    refine ⟨_, y, (stop k y h1 h0 hk hF hi1 (Or.inl (by omega))).trans ?_, mF_up hF (Or.inr ⟨rfl, by decide⟩), vup_s, fun j a b => by omega, fun j _ => vup_k (by decide), fun j => vup_k (by decide)⟩
    rw [e, if_neg (Int.lt_irrefl k)]
  | succ f ih =>
    intro k y h1 hf h0 hk hy hF hi1
    have sM1 := shModel_sx (mF_sx hF (by decide)) sM
    have e1 : h1 1540 282 0 = (n : Int) := (hF _ _ _ (by simp) (by simp)).trans hn
    have hd : rBl s n (f + 1) k = if (n : Int) ≤ k then k else @ite _ (bl (s k)) (Classical.propDecidable _) (rBl s n f (k + 1)) k := rfl
    by_cases c : (n : Int) ≤ k ∨ ¬ bl (s k)
    · have e : rBl s n (f + 1) k = k := by
        rw [hd]
        by_cases c1 : (n : Int) ≤ k
        · rw [if_pos c1]
        · rw [if_neg c1, if_neg (c.resolve_left c1)]
      refine ⟨_, y, (stop k y h1 h0 hk hF hi1 c).trans ?_, mF_up hF (Or.inr ⟨rfl, by decide⟩), vup_s, fun j a b => by omega, fun j _ => vup_k (by decide), fun j => vup_k (by decide)⟩
      rw [e, if_neg (Int.lt_irrefl k)]
    · have c1 : ¬ (n : Int) ≤ k := fun z => c (Or.inl z)
      have c2 : bl (s k) := Classical.byContradiction fun z => c (Or.inr z)
      have e3 : h1 2 311 k = s k := (hF _ _ _ (by simp) (by simp)).trans (hs k h0 (by omega))
      have e : rBl s n (f + 1) k = rBl s n f (k + 1) := by rw [hd, if_neg c1, if_pos c2]
      have g := rBl_ge (s := s) (n := n) f (k + 1)
      have hF2 : mF rA rK h (vup h1 2 315 k 0) := mF_up hF (Or.inl ⟨rfl, by decide⟩)
      obtain ⟨h2, y2, q1, q2, q3, q4, q5, q6⟩ := ih (k + 1) (k + 1) _ (by omega) (by omega) (by omega) (Int.le_refl _) hF2 ((vup_k (by decide)).trans hi1)
      refine ⟨h2, y2, ?_, q2, q3, ?_, ?_, fun j => (q6 j).trans (vup_r (by decide))⟩
      · rw [rX13_laysRows_123 sM1, if_neg (by omega), if_neg (by rw [M_blank, e3, b2i_t c2]; decide), q1, e, if_pos (show k < rBl s n f (k + 1) by omega)]
        · by_cases z : k + 1 < rBl s n f (k + 1)
          · rw [if_pos z]
          · rw [if_neg z, show rBl s n f (k + 1) = k + 1 by omega]
        all_goals (first | (intros; omega) | assumption)
      · intro j a b
        rw [e] at b
        by_cases ej : j = k
        · subst ej
          rw [q5 j (Or.inl (by omega)), vup_s]
        · exact q4 j (by omega) b
      · intro j a
        rw [e] at a
        rw [q5 j (by omega), vup_2, if_neg (by omega)]
/-- a row -/
theorem M_row (sM : shModel h) (hp : 0 ≤ p ∧ p < 4) (hn : h 1540 282 0 = (n : Int)) (h140 : n ≤ 131) (hs : ∀ k : Int, 0 ≤ k → k < n → h 2 311 k = s k) (hW : h 2 286 p = W) (hW2 : W ≤ 40) {st c : Int} {i : Nat} (hi : i ≤ 139) (h0 : 0 ≤ st) (hst : st ≤ n) (hc : 0 ≤ c ∧ c ≤ 4) {h1 : vH} (hF : mF rA rK h h1) (hi1 : h1 1541 282 0 = (i : Int)) :
    ∃ h2 x y, vrun mX13_laysRows 53 [(1, 282), (0, p), (0, st), (0, c), (0, -1)] [] h1 = vrun mX13_laysRows 7 [(1, 282), (0, p), (0, rNx s n W st c), (0, x), (0, y)] [] h2 ∧ mF rA rK h h2 ∧ h2 1541 282 0 = (i : Int) + 1 ∧ (∀ j, st ≤ j → j < rB s n W st c → h2 2 315 j = rWd s n W st c j) ∧ (∀ j, j < st → h2 2 315 j = h1 2 315 j) ∧ (∀ j, h2 2 320 j = h1 2 320 j) := by
  have sM1 := shModel_sx (mF_sx hF (by decide)) sM
  have e1 : h1 1540 282 0 = (n : Int) := (hF _ _ _ (by simp) (by simp)).trans hn
  obtain ⟨h2, x, a1, a2, a3, a4⟩ := M_fit (s := s) sM1 hp e1 (by omega) (fun k a b => (hF _ _ _ (by simp) (by simp)).trans (hs k a b)) ((hF _ _ _ (by simp) (by simp)).trans hW) hW2 140 st c (-1) h1 (by omega) h0 hc.1 (by omega) mF_rf
  have g := rE_in (s := s) (n := n) (W := W) (st := st) (c := c) hst
  have ge : rFit s n W 140 st c = rE s n W st c := rfl
  rw [ge] at a1 a3 a4
  have yb := rBh_in (s := s) (rE s n W st c - st).toNat st (-1)
  have hF2 : mF rA rK h h2 := mF_tr hF (mF_le a2 (by decide) (by decide))
  obtain ⟨h3, y, b1, b2, b3, b4, b5, b6⟩ := M_skip (p := p) (x := x) sM hn (by omega) hs (i := i) (by omega) 140 (rE s n W st c) (rBh s (rE s n W st c - st).toNat st (-1)) h2 (by omega) (by omega) g.2 (by omega) hF2 ((a2 _ _ _ (by simp) (by simp)).trans hi1)
  have be : rBl s n 140 (rE s n W st c) = rB s n W st c := rfl
  rw [be] at b1 b4 b5
  have bg := rB_in (s := s) (n := n) (W := W) (st := st) (c := c) hst
  refine ⟨h3, x, y, ?_, b2, b3, ?_, ?_, fun j => (b6 j).trans (a2 _ _ _ (by simp) (by simp))⟩
  · rw [a1, b1]
    rfl
  · intro j q1 q2
    unfold rWd
    by_cases z : j < rE s n W st c
    · rw [if_pos z, b5 j (Or.inl z)]
      exact a3 j q1 z
    · rw [if_neg z]
      exact b4 j (by omega) q2
  · intro j q
    rw [b5 j (Or.inl (by omega)), a4 j (Or.inl q)]
/-- the rows that are laid -/
def mRw (h : vH) (s : Int → Int) (n : Nat) (W d : Int) (i : Nat) : Prop := (∀ j : Nat, j < i → h 2 320 j = rSt s n W d j) ∧ ∀ j : Nat, j < i → ∀ k, rSt s n W d j ≤ k → k < rSt s n W d (j + 1) → h 2 315 k = rWd s n W (rSt s n W d j) (if j = 0 then 0 else d) k
theorem M_rows (sM : shModel h) (hp : 0 ≤ p ∧ p < 4) (hn : h 1540 282 0 = (n : Int)) (h131 : n ≤ 131) (hs : ∀ k : Int, 0 ≤ k → k < n → h 2 311 k = s k) (hW : h 2 286 p = W) (hW2 : 10 ≤ W ∧ W ≤ 40) (hd : h 2 287 p = d) (hd2 : 0 ≤ d ∧ d ≤ 4) : ∀ (f : Nat) (i : Nat) (v3 v4 : vv) (h1 : vH), n + 2 ≤ i + f → (i = 0 ∨ i = 1 ∨ ∀ j, 1 ≤ j → j < i → rSt s n W d j < n) → mF rA rK h h1 → h1 1541 282 0 = (i : Int) → mRw h1 s n W d i →
    ∃ h2 R v5, vrun mX13_laysRows 7 [(1, 282), (0, p), (0, rSt s n W d i), v3, v4] [] h1 = vrun mX13_laysRows 204 [(1, 282), (0, p), (0, rSt s n W d R), (0, 0), v5] [] h2 ∧ isR s n W d R ∧ R ≤ 131 ∧ mF rA rK h h2 ∧ h2 1541 282 0 = (R : Int) ∧ mRw h2 s n W d R ∧ h2 2 320 R = (n : Int) := by
  intro f
  induction f with
  | zero =>
    intro i v3 v4 h1 hf hi hF hi1 hR
    have a := rSt_ge (s := s) (n := n) (W := W) (d := d) (by omega) hd2 hW2.1 n (Int.le_refl _)
    rcases hi with z | z | z
    · omega
    · have := rSt_in (s := s) (n := n) (W := W) (d := d) (by omega) hd2 hW2.1 n
      subst z
      omega
    · have := z n
      have := rSt_in (s := s) (n := n) (W := W) (d := d) (by omega) hd2 hW2.1 n
      by_cases n0 : n = 0
      · have := z 1 (by omega) (by omega)
        have := rSt_in (s := s) (n := n) (W := W) (d := d) (by omega) hd2 hW2.1 1
        omega
      · omega
  | succ f ih =>
    intro i v3 v4 h1 hf hi hF hi1 hR
    have sM1 := shModel_sx (mF_sx hF (by decide)) sM
    have e1 : h1 1540 282 0 = (n : Int) := (hF _ _ _ (by simp) (by simp)).trans hn
    have e2 : h1 2 287 p = d := (hF _ _ _ (by simp) (by simp)).trans hd
    have p0 := rSt_in (s := s) (n := n) (W := W) (d := d) (by omega) hd2 hW2.1 i
    have ib : i ≤ 131 := by
      rcases hi with z | z | z
      · omega
      · omega
      · by_cases q : i ≤ n
        · omega
        · have a := rSt_ge (s := s) (n := n) (W := W) (d := d) (by omega) hd2 hW2.1 n (Int.le_refl _)
          by_cases n0 : n = 0
          · by_cases i2 : i ≤ 1
            · omega
            · have := z 1 (by omega) (by omega)
              have := rSt_in (s := s) (n := n) (W := W) (d := d) (by omega) hd2 hW2.1 1
              omega
          · have := z n (by omega) (by omega)
            omega
    by_cases c : rSt s n W d i < n ∨ i = 0
    · have go : vrun mX13_laysRows 7 [(1, 282), (0, p), (0, rSt s n W d i), v3, v4] [] h1 = vrun mX13_laysRows 53 [(1, 282), (0, p), (0, rSt s n W d i), (0, if i = 0 then 0 else d), (0, -1)] [] (vup h1 2 320 i (rSt s n W d i)) := by
        have e3 : (if h1 1541 282 0 = 0 then (0 : Int) else h1 2 287 p) = if i = 0 then 0 else d := by
          rw [hi1, e2]
          by_cases z : i = 0
          · rw [if_pos z, if_pos (by omega)]
          · rw [if_neg z, if_neg (by omega)]
        rw [rX13_laysRows_7 sM1, e1, hi1]
        · by_cases c2 : rSt s n W d i < n
          · rw [if_pos c2, ← hi1, e3, hi1]
          · rw [if_neg c2, if_pos (by have := c.resolve_left c2; omega), ← hi1, e3, hi1]
        all_goals (first | (intros; omega) | assumption)
      have hc : 0 ≤ (if i = 0 then 0 else d) ∧ (if i = 0 then 0 else d) ≤ 4 := by split <;> omega
      have hF2 : mF rA rK h (vup h1 2 320 i (rSt s n W d i)) := mF_up hF (Or.inl ⟨rfl, by decide⟩)
      obtain ⟨h2, x, y, q1, q2, q3, q4, q5, q6⟩ := M_row (s := s) sM hp hn h131 hs hW hW2.2 (st := rSt s n W d i) (c := if i = 0 then 0 else d) (i := i) (by omega) p0.1 p0.2.1 hc hF2 ((vup_k (by decide)).trans hi1)
      have nx : rNx s n W (rSt s n W d i) (if i = 0 then 0 else d) = rSt s n W d (i + 1) := rfl
      rw [nx] at q1
      have nb := (rNx_in (s := s) (n := n) (W := W) p0.1 p0.2.1 hc hW2.1).2.2
      rw [nx] at nb
      have mono : ∀ j : Nat, j < i → rSt s n W d (j + 1) ≤ rSt s n W d i := by
        intro j hj
        have key : ∀ m : Nat, rSt s n W d (j + 1) ≤ rSt s n W d (j + 1 + m) := by
          intro m
          induction m with
          | zero => exact Int.le_refl _
          | succ m ihm =>
            have a := rSt_in (s := s) (n := n) (W := W) (d := d) (by omega) hd2 hW2.1 (j + 1 + m)
            have b := rSt_in (s := s) (n := n) (W := W) (d := d) (by omega) hd2 hW2.1 (j + 1)
            have e := rSt_in (s := s) (n := n) (W := W) (d := d) (by omega) hd2 hW2.1 (j + 1 + m + 1)
            by_cases z : rSt s n W d (j + 1 + m) < n
            · have := a.2.2 z
              show _ ≤ rSt s n W d (j + 1 + m + 1)
              omega
            · show _ ≤ rSt s n W d (j + 1 + m + 1)
              have e9 : rSt s n W d (j + 1 + m) = n := by omega
              have : rSt s n W d (j + 1 + m + 1) = n := by
                show rNx s n W (rSt s n W d (j + 1 + m)) (if j + 1 + m = 0 then 0 else d) = n
                have b2 := rB_in (s := s) (n := n) (W := W) (st := rSt s n W d (j + 1 + m)) (c := if j + 1 + m = 0 then 0 else d) a.2.1
                have a2 := rE_in (s := s) (n := n) (W := W) (st := rSt s n W d (j + 1 + m)) (c := if j + 1 + m = 0 then 0 else d) a.2.1
                unfold rNx
                rw [if_pos (by omega)]
                omega
              omega
        have := key (i - (j + 1))
        rw [show j + 1 + (i - (j + 1)) = i by omega] at this
        exact this
      have hR2 : mRw h2 s n W d (i + 1) := by
        refine ⟨fun j hj => ?_, fun j hj k a b => ?_⟩
        · rw [q6, vup_2]
          by_cases z : j = i
          · subst z; rw [if_pos rfl]
          · rw [if_neg (by omega)]
            exact hR.1 j (by omega)
        · by_cases z : j = i
          · subst z
            exact q4 k a (by omega)
          · have := mono j (by omega)
            rw [q5 k (by omega), vup_r (by decide)]
            exact hR.2 j (by omega) k a b
      obtain ⟨h3, R, v5, r1, r2, r3, r4, r5, r6, r7⟩ := ih (i + 1) (0, x) (0, y) h2 (by omega) (by
        by_cases z : i = 0
        · exact Or.inr (Or.inl (by omega))
        · refine Or.inr (Or.inr fun j a b => ?_)
          have ci := c.resolve_right z
          by_cases e : j = i
          · rw [e]; exact ci
          · rcases hi with y | y | y
            · omega
            · omega
            · exact y j a (by omega)) q2 (by rw [q3]; omega) hR2
      exact ⟨h3, R, v5, by rw [go, q1, r1], r2, r3, r4, r5, r6, r7⟩
    · have c1 : ¬ rSt s n W d i < n := fun z => c (Or.inl z)
      have c2 : ¬ i = 0 := fun z => c (Or.inr z)
      refine ⟨vup h1 2 320 i n, i, v4, ?_, ⟨by omega, by omega, ?_⟩, ib, mF_up hF (Or.inl ⟨rfl, by decide⟩), (vup_k (by decide)).trans hi1, ⟨fun j hj => ?_, fun j hj k a b => ?_⟩, vup_s⟩
      · rw [rX13_laysRows_7 sM1, e1, hi1, if_neg c1, if_neg (by omega)]
        all_goals (first | (intros; omega) | assumption)
      · intro j a b
        rcases hi with y | y | y
        · omega
        · omega
        · exact y j a b
      · rw [vup_2, if_neg (by omega)]
        exact hR.1 j hj
      · rw [vup_r (by decide)]
        exact hR.2 j hj k a b
end MR2
