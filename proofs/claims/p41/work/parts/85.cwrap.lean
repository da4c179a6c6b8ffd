theorem rBh_last {s : Int → Int} : ∀ (m : Nat) (k x : Int), rBh s (m + 1) k x = @ite _ (bl (s (k + m))) (Classical.propDecidable _) (k + m + 1) (rBh s m k x)
  | 0, k, x => by
    show (@ite _ (bl (s k)) (Classical.propDecidable _) (k + 1) x) = @ite _ (bl (s (k + ((0 : Nat) : Int)))) (Classical.propDecidable _) (k + ((0 : Nat) : Int) + 1) x
    rw [show k + ((0 : Nat) : Int) = k by omega]
  | m + 1, k, x => by
    have ih := rBh_last (s := s) m (k + 1) (@ite _ (bl (s k)) (Classical.propDecidable _) (k + 1) x)
    rw [show k + 1 + (m : Int) = k + ((m + 1 : Nat) : Int) by omega] at ih
    exact ih
theorem rBl_bl {s : Int → Int} {n : Int} : ∀ (f : Nat) (k : Int), k < rBl s n f k → bl (s (rBl s n f k - 1))
  | 0, k, h => by
    have e : rBl s n 0 k = k := rfl
    omega
  | f + 1, k, h => by
    unfold rBl at h ⊢
    by_cases c : n ≤ k
    · rw [if_pos c] at h; omega
    · rw [if_neg c] at h ⊢
      by_cases d : bl (s k)
      · rw [if_pos d] at h ⊢
        by_cases e : k + 1 < rBl s n f (k + 1)
        · exact rBl_bl f (k + 1) e
        · have := rBl_ge (s := s) (n := n) f (k + 1)
          rw [show rBl s n f (k + 1) - 1 = k by omega]
          exact d
      · rw [if_neg d] at h; omega
theorem yF_0 {y lo hi : Int} {h h2 : vH} (x : yF y lo hi 1 0 h h2) : sx h h2 := yF_sx x (fun k u v => by omega)
theorem C_width {h : vH} {y g x : Int} : fX3_widthAt h y g x = wd g x := by
  unfold fX3_widthAt wd
  by_cases a : g = 9
  · rw [if_pos a, if_pos a]
  · rw [if_neg a, if_neg a]
    by_cases b : g < 65
    · rw [if_pos b, if_neg (fun z => z.1 b)]
    · rw [if_neg b]
      by_cases c : 90 < g
      · rw [if_pos c, if_neg (fun z => z.2 c)]
      · rw [if_neg c, if_pos ⟨b, c⟩]
section CW
variable {h : vH} {y W : Int} {n : Nat} {s : Int → Int}
theorem C_fit (sL : shLayout h y) (hn : h 509 y 0 = (n : Int)) (h131 : n ≤ 131) (hs : ∀ k : Int, 0 ≤ k → k < n → h 2 (y + 1) k = s k) (hW : W ≤ 40) {x1 x2 : Int} : ∀ (f : Nat) (k x : Int) (h1 : vH), (n : Int) ≤ k + f → 0 ≤ k → 0 ≤ x → x ≤ 44 → yF y 5 5 1 0 h h1 →
    ∃ h2 x3, vrun mX3_layRow 10 [(1, y), (0, x1), (0, x2), (0, W), (0, x), (0, k), (9, 0)] [] h1 = vrun mX3_layRow 85 [(1, y), (0, x1), (0, x2), (0, W), (0, x3), (0, rFit s n W f k x), (9, 0)] [] h2 ∧ yF y 5 5 1 0 h h2 ∧ (∀ j, k ≤ j → j < rFit s n W f k x → h2 2 (y + 5) j = wd (s j) (rPos s (j - k).toNat k x)) ∧ (∀ j, (j < k ∨ rFit s n W f k x ≤ j) → h2 2 (y + 5) j = h1 2 (y + 5) j) := by
  intro f
  induction f with
  | zero =>
    intro k x h1 hf h0 hx hx2 hF
    have e1 : h1 509 y 0 = (n : Int) := (hF _ _ _ (by omega)).trans hn
    refine ⟨h1, x, ?_, hF, fun j a b => ?_, fun j _ => rfl⟩
    · rw [rX3_layRow_10 (shLayout_sx (yF_0 hF) sL), if_pos (by omega)]
      · rfl
      all_goals (first | (intros; omega) | assumption)
    · have : rFit s n W 0 k x = k := rfl
      omega
  | succ f ih =>
    intro k x h1 hf h0 hx hx2 hF
    have e1 : h1 509 y 0 = (n : Int) := (hF _ _ _ (by omega)).trans hn
    have sL1 := shLayout_sx (yF_0 hF) sL
    have hd : rFit s n W (f + 1) k x = if (n : Int) ≤ k then k else if W < x + wd (s k) x then k else rFit s n W f (k + 1) (x + wd (s k) x) := rfl
    have w := wd_le (g := s k) hx
    by_cases c : (n : Int) ≤ k
    · rw [if_pos c] at hd
      refine ⟨h1, x, ?_, hF, fun j a b => by omega, fun j _ => rfl⟩
      rw [rX3_layRow_10 sL1, if_pos (by omega), hd]
      all_goals (first | (intros; omega) | assumption)
    · have e3 : h1 2 (y + 1) k = s k := (hF _ _ _ (by omega)).trans (hs k h0 (by omega))
      rw [if_neg c] at hd
      have e4 : fX3_widthAt h1 y (h1 2 (y + 1) k) x = wd (s k) x := by rw [C_width, e3]
      by_cases d : W < x + wd (s k) x
      · rw [if_pos d] at hd
        refine ⟨h1, x, ?_, hF, fun j a b => by omega, fun j _ => rfl⟩
        rw [rX3_layRow_10 sL1, if_neg (by omega), if_neg (by omega), if_pos (by rw [e4]; exact d), hd]
        all_goals (try rw [e4])
        all_goals (try rw [vup_s])
        all_goals (first | (intros; omega) | assumption)
      · rw [if_neg d] at hd
        have hF2 : yF y 5 5 1 0 h (vup h1 2 (y + 5) k (wd (s k) x)) := yF_up hF (Or.inl ⟨rfl, by omega, by omega⟩)
        obtain ⟨h2, x3, q1, q2, q3, q4⟩ := ih (k + 1) (x + wd (s k) x) _ (by omega) (by omega) (by omega) (by omega) hF2
        have g := rFit_ge (s := s) (n := n) (W := W) f (k + 1) (x + wd (s k) x)
        refine ⟨h2, x3, ?_, q2, ?_, ?_⟩
        · rw [rX3_layRow_10 sL1, if_neg (by omega), if_neg (by omega), if_neg (by rw [e4]; exact d), e4, vup_s, hd]
          · exact q1
          all_goals (try rw [e4])
          all_goals (try rw [vup_s])
          all_goals (first | (intros; omega) | assumption)
        · intro j a b
          rw [hd] at b
          by_cases ej : j = k
          · subst ej
            rw [q4 j (Or.inl (by omega)), vup_s, Int.sub_self]
            rfl
          · rw [q3 j (by omega) b, show (j - k).toNat = (j - (k + 1)).toNat + 1 by omega]
            rfl
        · intro j a
          rw [hd] at a
          rw [q4 j (by omega), vup_2, if_neg (by omega)]
theorem C_back (sL : shLayout h y) {st k x2 x4 : Int} (h0 : 0 ≤ st) (hs : ∀ j : Int, 0 ≤ j → j < n → h 2 (y + 1) j = s j) (h131 : n ≤ 131) : ∀ (m : Nat), st + m ≤ n → vrun mX3_layRow 145 [(1, y), (0, st), (0, x2), (0, W), (0, x4), (0, k), (0, st + m)] [] h = some (.inl (some (0, if rBh s m st (-1) = -1 then k else rBh s m st (-1))), h) := by
  intro m
  induction m with
  | zero =>
    intro hm
    rw [rX3_layRow_145 sL, if_pos (by omega), if_pos (by omega), show rBh s 0 st (-1) = -1 from rfl, if_pos rfl]
    all_goals (first | (intros; omega) | assumption)
  | succ m ih =>
    intro hm
    have e : h 2 (y + 1) (st + ((m + 1 : Nat) : Int) - 1) = s (st + m) := by rw [show st + ((m + 1 : Nat) : Int) - 1 = st + m by omega]; exact hs _ (by omega) (by omega)
    rw [rX3_layRow_145 sL, if_neg (by omega), if_neg (by omega), e, rBh_last]
    · by_cases b : bl (s (st + m))
      · rw [if_pos (show s (st + m) = 32 ∨ s (st + m) = 9 from b), if_pos b, if_neg (by omega), if_neg (by omega)]
        rw [show st + ((m + 1 : Nat) : Int) = st + m + 1 by omega]
      · rw [if_neg (show ¬ (s (st + m) = 32 ∨ s (st + m) = 9) from b), if_neg b, show st + ((m + 1 : Nat) : Int) + -1 = st + m by omega]
        exact ih (by omega)
    all_goals (first | (intros; omega) | assumption)
theorem C_blank (sL : shLayout h y) (hn : h 509 y 0 = (n : Int)) (h131 : n ≤ 131) (hs : ∀ k : Int, 0 ≤ k → k < n → h 2 (y + 1) k = s k) {x1 x2 x4 : Int} : ∀ (f : Nat) (k : Int) (h1 : vH), (n : Int) ≤ k + f → 0 ≤ k → k ≤ n → yF y 5 5 1 0 h h1 →
    ∃ h2, vrun mX3_layRow 85 [(1, y), (0, x1), (0, x2), (0, W), (0, x4), (0, k), (9, 0)] [] h1 = (if rBl s n f k < n then vrun mX3_layRow 145 [(1, y), (0, x1), (0, x2), (0, W), (0, x4), (0, rBl s n f k), (0, rBl s n f k)] [] h2 else some (.inl (some (0, rBl s n f k)), h2)) ∧ yF y 5 5 1 0 h h2 ∧ (∀ j, k ≤ j → j < rBl s n f k → h2 2 (y + 5) j = 0) ∧ (∀ j, (j < k ∨ rBl s n f k ≤ j) → h2 2 (y + 5) j = h1 2 (y + 5) j) := by
  intro f
  induction f with
  | zero =>
    intro k h1 hf h0 hk hF
    have e1 : h1 509 y 0 = (n : Int) := (hF _ _ _ (by omega)).trans hn
    have e : rBl s n 0 k = k := rfl
    refine ⟨h1, ?_, hF, fun j a b => by omega, fun j _ => rfl⟩
    rw [rX3_layRow_85 (shLayout_sx (yF_0 hF) sL), if_pos (by omega), e1, e]
    all_goals (first | (intros; omega) | assumption)
  | succ f ih =>
    intro k h1 hf h0 hk hF
    have sL1 := shLayout_sx (yF_0 hF) sL
    have e1 : h1 509 y 0 = (n : Int) := (hF _ _ _ (by omega)).trans hn
    have hd : rBl s n (f + 1) k = if (n : Int) ≤ k then k else @ite _ (bl (s k)) (Classical.propDecidable _) (rBl s n f (k + 1)) k := rfl
    by_cases c1 : (n : Int) ≤ k
    · rw [if_pos c1] at hd
      refine ⟨h1, ?_, hF, fun j a b => by omega, fun j _ => rfl⟩
      rw [rX3_layRow_85 sL1, if_pos (by omega), e1, hd]
      all_goals (first | (intros; omega) | assumption)
    · rw [if_neg c1] at hd
      have e3 : h1 2 (y + 1) k = s k := (hF _ _ _ (by omega)).trans (hs k h0 (by omega))
      by_cases b : bl (s k)
      · rw [if_pos b] at hd
        have hF2 : yF y 5 5 1 0 h (vup h1 2 (y + 5) k 0) := yF_up hF (Or.inl ⟨rfl, by omega, by omega⟩)
        obtain ⟨h2, q1, q2, q3, q4⟩ := ih (k + 1) _ (by omega) (by omega) (by omega) hF2
        have g := rBl_ge (s := s) (n := n) f (k + 1)
        refine ⟨h2, ?_, q2, fun j a z => ?_, fun j a => ?_⟩
        · rw [rX3_layRow_85 sL1, if_neg (by omega), if_neg (by omega), e3, if_pos (show s k = 32 ∨ s k = 9 from b), hd]
          · exact q1
          all_goals (first | (intros; omega) | assumption)
        · rw [hd] at z
          by_cases ej : j = k
          · subst ej
            rw [q4 j (Or.inl (by omega)), vup_s]
          · exact q3 j (by omega) z
        · rw [hd] at a
          rw [q4 j (by omega), vup_2, if_neg (by omega)]
      · rw [if_neg b] at hd
        refine ⟨h1, ?_, hF, fun j a b => by omega, fun j _ => rfl⟩
        rw [rX3_layRow_85 sL1, if_neg (by omega), if_neg (by omega), e3, if_neg (show ¬ (s k = 32 ∨ s k = 9) from b), e1, hd]
        all_goals (first | (intros; omega) | assumption)
/-- THE CLASS LAYS A ROW -/
theorem C_layRow (sL : shLayout h y) (hn : h 509 y 0 = (n : Int)) (h131 : n ≤ 131) (hs : ∀ k : Int, 0 ≤ k → k < n → h 2 (y + 1) k = s k) (hW : W ≤ 40) {st c : Int} (h0 : 0 ≤ st) (hst : st ≤ n) (hc : 0 ≤ c ∧ c ≤ 4) : ∃ h2, vcl mX3_layRow [(1, y), (0, st), (0, c), (0, W)] h = some (.inl (some (0, rNx s n W st c)), h2) ∧ yF y 5 5 1 0 h h2 ∧ (∀ j, st ≤ j → j < rB s n W st c → h2 2 (y + 5) j = rWd s n W st c j) ∧ (∀ j, j < st → h2 2 (y + 5) j = h 2 (y + 5) j) := by
  obtain ⟨h1, x3, a1, a2, a3, a4⟩ := C_fit (s := s) (x1 := st) (x2 := c) sL hn h131 hs hW 140 st c h (by omega) h0 hc.1 (by omega) yF_rf
  have g := rE_in (s := s) (n := n) (W := W) (st := st) (c := c) hst
  have ge : rFit s n W 140 st c = rE s n W st c := rfl
  rw [ge] at a1 a3 a4
  obtain ⟨h2, b1, b2, b3, b4⟩ := C_blank (s := s) (W := W) (x1 := st) (x2 := c) (x4 := x3) sL hn h131 hs 140 (rE s n W st c) h1 (by omega) (by omega) g.2 a2
  have be : rBl s n 140 (rE s n W st c) = rB s n W st c := rfl
  rw [be] at b1 b3 b4
  have bg := rB_in (s := s) (n := n) (W := W) (st := st) (c := c) hst
  refine ⟨h2, ?_, b2, ?_, ?_⟩
  · refine (rX3_layRow_0).trans ?_
    rw [show max st 0 = st by omega, a1, b1]
    unfold rNx
    by_cases z : (n : Int) ≤ rB s n W st c
    · rw [if_neg (by omega), if_pos z]
    · rw [if_pos (by omega), if_neg z]
      have sL2 := shLayout_sx (yF_0 b2) sL
      have hs2 : ∀ k : Int, 0 ≤ k → k < n → h2 2 (y + 1) k = s k := fun k u v => (b2 _ _ _ (by omega)).trans (hs k u v)
      have bk := C_back (s := s) (n := n) (W := W) (st := st) (k := rB s n W st c) (x2 := c) (x4 := x3) sL2 h0 hs2 h131 (rB s n W st c - st).toNat (by omega)
      rw [show st + ((rB s n W st c - st).toNat : Int) = rB s n W st c by omega] at bk
      rw [bk]
      unfold rX
      by_cases w : rE s n W st c < rB s n W st c
      · rw [if_pos w, if_neg (show ¬ rB s n W st c = -1 by omega), show (rB s n W st c - st).toNat = (rB s n W st c - st).toNat - 1 + 1 by omega, rBh_last]
        have lb : bl (s (rB s n W st c - 1)) := rBl_bl 140 _ w
        rw [show st + ((rB s n W st c - st).toNat - 1 : Nat) = rB s n W st c - 1 by omega, if_pos lb, if_neg (by omega)]
        congr 5
        omega
      · rw [if_neg w, show rE s n W st c = rB s n W st c by omega]
  · intro j q1 q2
    unfold rWd
    by_cases z : j < rE s n W st c
    · rw [if_pos z, b4 j (Or.inl z)]
      exact a3 j q1 z
    · rw [if_neg z]
      exact b3 j (by omega) q2
  · intro j q
    rw [b4 j (Or.inl (by omega)), a4 j (Or.inl q)]
/-- the class's rows -/
def kRs (h : vH) (y : Int) (s : Int → Int) (n : Nat) (W d : Int) (R : Nat) : Prop := isR s n W d R ∧ R ≤ 131 ∧ h 510 y 0 = (R : Int) ∧ h 513 y 0 = d ∧ (∀ j : Nat, j < R → h 2 (y + 9) j = rSt s n W d j) ∧ (∀ j : Nat, j < R → ∀ k, rSt s n W d j ≤ k → k < rSt s n W d (j + 1) → h 2 (y + 5) k = rWd s n W (rSt s n W d j) (cI d j) k)
theorem C_wrap {d : Int} (sL : shLayout h y) (hn : h 509 y 0 = (n : Int)) (h131 : n ≤ 131) (hs : ∀ k : Int, 0 ≤ k → k < n → h 2 (y + 1) k = s k) (hW : 10 ≤ W ∧ W ≤ 40) (hd : 0 ≤ d ∧ d ≤ 4) : ∃ h2 R, vcl mX3_wrap [(1, y), (0, W), (0, d)] h = some (.inl none, h2) ∧ yF y 5 9 510 513 h h2 ∧ (∀ r i, (r = y + 6 ∨ r = y + 7 ∨ r = y + 8) → h2 2 r i = h 2 r i) ∧ h2 512 y 0 = h 512 y 0 ∧ kRs h2 y s n W d R := by
  have n0 : (0 : Int) ≤ n := by omega
  have loop : ∀ (f i : Nat) (h1 : vH), n + 2 ≤ i + f → (i = 0 ∨ i = 1 ∨ ∀ j, 1 ≤ j → j < i → rSt s n W d j < n) → yF y 5 9 510 513 h h1 → (∀ r i, (r = y + 6 ∨ r = y + 7 ∨ r = y + 8) → h1 2 r i = h 2 r i) → h1 512 y 0 = h 512 y 0 → h1 510 y 0 = (i : Int) → h1 513 y 0 = d → (∀ j : Nat, j < i → h1 2 (y + 9) j = rSt s n W d j) → (∀ j : Nat, j < i → ∀ k, rSt s n W d j ≤ k → k < rSt s n W d (j + 1) → h1 2 (y + 5) k = rWd s n W (rSt s n W d j) (cI d j) k) → i ≤ 131 → ∃ h2 R, vrun mX3_wrap 12 [(1, y), (0, W), (0, d), (0, rSt s n W d i)] [] h1 = some (.inl none, h2) ∧ yF y 5 9 510 513 h h2 ∧ (∀ r i, (r = y + 6 ∨ r = y + 7 ∨ r = y + 8) → h2 2 r i = h 2 r i) ∧ h2 512 y 0 = h 512 y 0 ∧ kRs h2 y s n W d R := by
    intro f
    induction f with
    | zero =>
      intro i h1 hf hi
      have a := rSt_ge (s := s) (n := n) (W := W) (d := d) (by omega) hd hW.1 n (Int.le_refl _)
      have b := rSt_in (s := s) (n := n) (W := W) (d := d) (by omega) hd hW.1 n
      have b1 := rSt_in (s := s) (n := n) (W := W) (d := d) (by omega) hd hW.1 1
      rcases hi with z | z | z
      · omega
      · omega
      · by_cases n0 : n = 0
        · have := z 1 (by omega) (by omega)
          omega
        · have := z n (by omega) (by omega)
          omega
    | succ f ih =>
      intro i h1 hf hi hF h678 hlen hi1 hind hR1 hR2 i131
      have sL1 := shLayout_sx (yF_sx hF (fun k u v => st509 k (by omega) (by omega))) sL
      have e1 : h1 509 y 0 = (n : Int) := (hF _ _ _ (by omega)).trans hn
      have p0 := rSt_in (s := s) (n := n) (W := W) (d := d) (by omega) hd hW.1 i
      by_cases c : rSt s n W d i < n ∨ i = 0
      · have il : i < 131 := by
          refine Nat.lt_of_le_of_ne i131 fun z => ?_
          rcases c with c | c
          · have := rSt_ge (s := s) (n := n) (W := W) (d := d) (by omega) hd hW.1 i
            by_cases q : (i : Int) ≤ n
            · have := this q; omega
            · have a := rSt_ge (s := s) (n := n) (W := W) (d := d) (by omega) hd hW.1 n (Int.le_refl _)
              have mo := rSt_mono (s := s) (n := n) hd hW.1 (show n ≤ i by omega)
              omega
          · omega
        have hc : 0 ≤ (if i = 0 then 0 else d) ∧ (if i = 0 then 0 else d) ≤ 4 := by split <;> omega
        have hF2 : yF y 5 9 510 513 h (vup h1 2 (y + 9) i (rSt s n W d i)) := yF_up hF (Or.inl ⟨rfl, by omega, by omega⟩)
        have sL2 : shLayout (vup h1 2 (y + 9) i (rSt s n W d i)) y := shLayout_sx (yF_sx hF2 (fun k u v => st509 k (by omega) (by omega))) sL
        obtain ⟨h2, q1, q2, q3, q4⟩ := C_layRow (s := s) (n := n) (W := W) (st := rSt s n W d i) (c := if i = 0 then 0 else d) sL2 ((vup_k (by decide)).trans e1) h131 (fun k u v => (hF2 _ _ _ (by omega)).trans (hs k u v)) hW.2 p0.1 p0.2.1 hc
        have nx : rNx s n W (rSt s n W d i) (if i = 0 then 0 else d) = rSt s n W d (i + 1) := rfl
        rw [nx] at q1
        have nb := (rNx_in (s := s) (n := n) (W := W) p0.1 p0.2.1 hc hW.1).2.2
        rw [nx] at nb
        have hF3 : yF y 5 9 510 513 h h2 := yF_tr hF2 (fun k r i e => q2 k r i (fun w => e (w.elim (fun v => Or.inl ⟨v.1, by omega, by omega⟩) (fun v => by omega))))
        have e2 : h2 510 y 0 = (i : Int) := (q2 _ _ _ (by omega)).trans ((vup_k (by decide)).trans hi1)
        obtain ⟨h3, R, r1, r2, r3, r4, r5⟩ := ih (i + 1) (vup h2 510 y 0 ((i : Int) + 1)) (by omega) (by
          by_cases z : i = 0
          · exact Or.inr (Or.inl (by omega))
          · refine Or.inr (Or.inr fun j a b => ?_)
            have ci := c.resolve_right z
            by_cases e : j = i
            · rw [e]; exact ci
            · rcases hi with y | y | y
              · omega
              · omega
              · exact y j a (by omega)) (yF_up hF3 (Or.inr ⟨rfl, by decide, by decide⟩)) (fun r j z => by
          rw [vup_k (by decide), q2 _ _ _ (by omega), vup_r (by omega)]
          exact h678 r j z) (by rw [vup_k (by decide), q2 _ _ _ (by omega), vup_k (by decide)]; exact hlen) (vup_s.trans (by omega)) (by rw [vup_k (by decide), q2 _ _ _ (by omega), vup_k (by decide)]; exact hind) (fun j hj => by
          rw [vup_k (by decide), q2 _ _ _ (by omega), vup_2]
          by_cases z : j = i
          · rw [if_pos (by omega), z]
          · rw [if_neg (by omega)]
            exact hR1 j (by omega)) (fun j hj k u v => by
          rw [vup_k (by decide)]
          by_cases z : j = i
          · subst z
            exact q3 k u (by omega)
          · have mo := rSt_mono (s := s) (n := n) hd hW.1 (show j + 1 ≤ i by omega)
            rw [q4 k (by omega), vup_r (by omega)]
            exact hR2 j (by omega) k u v) (by omega)
        refine ⟨h3, R, ?_, r2, r3, r4, r5⟩
        have go : vcl mX3_layRow [(1, y), (0, rSt s n W d i), (0, (if h1 510 y 0 = 0 then 0 else (vup h1 2 (y + 9) (h1 510 y 0) (rSt s n W d i)) 513 y 0)), (0, W)] (vup h1 2 (y + 9) (h1 510 y 0) (rSt s n W d i)) = some (.inl (some (0, rSt s n W d (i + 1))), h2) := by
          rw [hi1, vup_k (by decide), hind, ← q1]
          congr 5
          by_cases z : i = 0
          · rw [if_pos (by omega), if_pos z]
          · rw [if_neg (by omega), if_neg z]
        rw [rX3_wrap_12 sL1, if_neg (by omega)]
        · have fin : vret vrun mX3_wrap 58 [(1, y), (0, W), (0, d), (0, rSt s n W d i)] [] (vcl mX3_layRow [(1, y), (0, rSt s n W d i), (0, (if h1 510 y 0 = 0 then 0 else (vup h1 2 (y + 9) (h1 510 y 0) (rSt s n W d i)) 513 y 0)), (0, W)] (vup h1 2 (y + 9) (h1 510 y 0) (rSt s n W d i))) = some (.inl none, h3) := by
            refine (vret_v go).trans ?_
            refine (rX3_wrap_61 (shLayout_sx (yF_sx hF3 (fun k u v => st509 k (by omega) (by omega))) sL) (by omega) (by omega)).trans ?_
            rw [e2]
            exact r1
          by_cases z : h1 510 y 0 = 0
          · rw [if_pos z]
            exact fin
          · rw [if_neg z, if_neg (by omega)]
            exact fin
        all_goals (first | (intros; omega) | assumption)
      · have c1 : ¬ rSt s n W d i < n := fun z => c (Or.inl z)
        have c2 : ¬ i = 0 := fun z => c (Or.inr z)
        refine ⟨h1, i, ?_, hF, h678, hlen, ⟨⟨by omega, by omega, ?_⟩, i131, hi1, hind, hR1, hR2⟩⟩
        · rw [rX3_wrap_12 sL1]
          · by_cases z : 131 ≤ h1 510 y 0
            · rw [if_pos z]
            · rw [if_neg z, if_neg (by omega), if_pos (by omega)]
          all_goals (first | (intros; omega) | assumption)
        · intro j a b
          rcases hi with y | y | y
          · omega
          · omega
          · exact y j a b
  have hF0 : yF y 5 9 510 513 h (vup (vup h 513 y 0 d) 510 y 0 0) := yF_up (yF_up yF_rf (Or.inr ⟨rfl, by decide, by decide⟩)) (Or.inr ⟨rfl, by decide, by decide⟩)
  obtain ⟨h2, R, q1, q2⟩ := loop (n + 2) 0 _ (by omega) (Or.inl rfl) hF0 (fun r i _ => by rw [vup_k (by decide), vup_k (by decide)]) (by rw [vup_k (by decide), vup_k (by decide)]) vup_s (by rw [vup_k (by decide), vup_s]) (fun j hj => absurd hj (Nat.not_lt_zero j)) (fun j hj => absurd hj (Nat.not_lt_zero j)) (by decide)
  exact ⟨h2, R, (rX3_wrap_0 sL).trans q1, q2⟩
end CW

