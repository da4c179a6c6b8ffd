/-! what the class tells of a line that is laid -/
def fpS (L : List Clu) (z : Int) : Nat → Int → Int
  | 0, _ => z
  | f + 1, k => if bg L k = -1 then fpS L z f (k + 1) else bg L k
def lpM (L : List Clu) : Nat → Int → Int → Int
  | 0, _, r => r
  | f + 1, k, r => lpM L f (k + 1) (max r (bg L k))
def saF (L : List Clu) (x : Int) : Nat → Int → Int → Int
  | 0, _, r => r
  | f + 1, k, r => saF L x f (k + 1) (if x ≤ bg L k then r else max r (bg L k))
def sbF (L : List Clu) (x z : Int) : Nat → Int → Int
  | 0, _ => z
  | f + 1, k => if bg L k ≤ x then sbF L x z f (k + 1) else bg L k
section CQ
variable {h : vH} {y W d : Int} {L : List Clu} {R : Nat}
/-- a line of the class, laid -/
def cQ (h : vH) (y : Int) (L : List Clu) (W d : Int) (R : Nat) : Prop := shLayout h y ∧ kCl h y L ∧ kRs h y (sg L) L.length W d R ∧ (0 ≤ d ∧ d ≤ 4) ∧ (10 ≤ W ∧ W ≤ 40) ∧ L.length ≤ 131 ∧ ∀ z ∈ L, cluB z
def cQt (h : vH) (y : Int) (L : List Clu) (W d : Int) : Prop := ∀ c : Int, 0 ≤ c → c < L.length → h 2 (y + 7) c = lV (sg L) L.length W d c ∧ h 2 (y + 8) c = lS (sg L) L.length W d c ∧ h 2 (y + 6) c = lC (sg L) L.length W d c
theorem cQ_w (q : cQ h y L W d R) {c : Int} (h0 : 0 ≤ c) (hc : c < L.length) : h 2 (y + 5) c = lW (sg L) L.length W d c := by
  obtain ⟨q1, q2, q3, q4, q5, q6, q7⟩ := q
  obtain ⟨r1, r2, r3⟩ := rowO_in q4 q5.1 q3.1 q3.2.1 h0 hc
  exact q3.2.2.2.2.2 _ r1 c r2 r3
theorem cQt_of (q : cQ h y L W d R) (t : ∀ j : Nat, j < R → kRow h y (sg L) L.length W d j) : cQt h y L W d := by
  intro c h0 hc
  obtain ⟨q1, q2, q3, q4, q5, q6, q7⟩ := q
  obtain ⟨r1, r2, r3⟩ := rowO_in q4 q5.1 q3.1 q3.2.1 h0 hc
  exact t _ r1 c r2 r3
theorem cQ_st (q : cQ h y L W d R) {j : Nat} (hj : j ≤ R) : fX3_startOf h y j = rSt (sg L) L.length W d j := C_startOf q.2.1.1 q.2.2.1 q.2.2.2.1 q.2.2.2.2.1.1 hj
theorem cQ_in (q : cQ h y L W d R) (j : Nat) : 0 ≤ rSt (sg L) L.length W d j ∧ rSt (sg L) L.length W d j ≤ rSt (sg L) L.length W d (j + 1) ∧ rSt (sg L) L.length W d (j + 1) ≤ L.length := by
  have p0 := rSt_in (s := sg L) (n := L.length) (W := W) (d := d) (by omega) q.2.2.2.1 q.2.2.2.2.1.1 j
  have p1 := rSt_in (s := sg L) (n := L.length) (W := W) (d := d) (by omega) q.2.2.2.1 q.2.2.2.2.1.1 (j + 1)
  have up := rSt_up (s := sg L) (n := L.length) q.2.2.2.1 q.2.2.2.2.1.1 j
  omega
theorem C_rowOfEdge (q : cQ h y L W d R) {e : Int} (he : e = -1 ∨ (0 ≤ e ∧ e / 2 < L.length)) : vcl mX3_rowOfEdge [(1, y), (0, e)] h = some (.inl (some (0, if e = -1 then 0 else (rowO (sg L) L.length W d (e / 2) : Int))), h) := by
  obtain ⟨q1, q2, q3, q4, q5, q6, q7⟩ := id q
  have rc := q3.2.2.1
  have r131 := q3.2.1
  by_cases c : e = -1
  · refine rX3_rowOfEdge_0.trans ?_
    rw [rX3_rowOfEdge_2 (by omega) (by omega) q1 (by omega) (by omega), if_pos c, if_pos c]
  · have he := he.resolve_left c
    have en := isR_end (by omega) q4 q5.1 q3.1
    have loop : ∀ (f j : Nat), j + f = 140 → j < R → rSt (sg L) L.length W d j ≤ e / 2 → vrun mX3_rowOfEdge 2 [(1, y), (0, e), (0, j)] [] h = some (.inl (some (0, (rwF (rSt (sg L) L.length W d) (e / 2) f j : Int))), h) := by
      intro f
      induction f with
      | zero => intro j hj hR; omega
      | succ f ih =>
        intro j hj hR hs
        have st := cQ_st q (j := j + 1) (by omega)
        rw [show ((j + 1 : Nat) : Int) = (j : Int) + 1 by omega] at st
        rw [rX3_rowOfEdge_2 (by omega) (by omega) q1 (by omega) (by omega), if_neg c, st]
        unfold rwF
        by_cases z : rSt (sg L) L.length W d (j + 1) ≤ e / 2
        · have : j + 1 ≠ R := fun w => by rw [w] at z; omega
          rw [if_neg (by omega), if_neg (by omega), if_pos z]
          exact ih (j + 1) (by omega) (by omega) z
        · rw [if_neg z]
          split
          · rfl
          · rw [if_pos (by omega)]
    refine rX3_rowOfEdge_0.trans ?_
    rw [if_neg c]
    exact loop 140 0 (by omega) (by have := q3.1.1; omega) (by show (0 : Int) ≤ e / 2; omega)
theorem rX3_columnOfEdge_m : vrun mX3_columnOfEdge 0 [(1, y), (0, -1), (9, 0)] [] h = some (.inl (some (0, 0)), h) := by
  refine (rn_iload_n (pc := 0) (dd bX3_columnOfEdge dX3_columnOfEdge_0) rfl).trans ?_
  refine (rn_iconst (pc := 1) (dd bX3_columnOfEdge dX3_columnOfEdge_1) (by decide)).trans ?_
  refine (rn_idiv (pc := 2) (dd bX3_columnOfEdge dX3_columnOfEdge_2) (by decide)).trans ?_
  refine (rn_istore_n (pc := 3) (dd bX3_columnOfEdge dX3_columnOfEdge_3) (Nat.le_of_ble_eq_true rfl) rfl).trans ?_
  refine (rn_iload_n (pc := 4) (dd bX3_columnOfEdge dX3_columnOfEdge_4) rfl).trans ?_
  refine (rn_if_lt (t := 15) (pc := 5) (dd bX3_columnOfEdge dX3_columnOfEdge_5) rfl).trans ((if_pos (by decide)).trans ?_)
  refine (rn_iconst (pc := 15) (dd bX3_columnOfEdge dX3_columnOfEdge_15) (by decide)).trans ?_
  exact rn_ireturn (pc := 16) (dd bX3_columnOfEdge dX3_columnOfEdge_16) (Or.inl rfl)
/-- the column to which one goes down -/
noncomputable def dCol (L : List Clu) (W d x sd : Int) : Int := if tkC L x sd = -1 then 0 else lC (sg L) L.length W d (tkC L x sd) + (if tkB L x sd = (if lV (sg L) L.length W d (tkC L x sd) % 2 = 0 then 1 else 0) then lW (sg L) L.length W d (tkC L x sd) else 0)
noncomputable def dRow (L : List Clu) (W d x sd : Int) : Int := if tkC L x sd = -1 then 0 else (rowO (sg L) L.length W d (tkC L x sd) : Int)
theorem tkE_h {x sd : Int} (h : ¬ tkC L x sd = -1) : tkE L x sd / 2 = tkC L x sd ∧ ¬ tkE L x sd = -1 ∧ 0 ≤ tkE L x sd ∧ tkE L x sd % 2 = tkB L x sd ∧ tkE L x sd ≤ 2 * tkC L x sd + 1 := by
  have t := tkC_in (L := L) (x := x) (sd := sd)
  unfold tkE
  rw [if_neg h]
  omega
theorem C_colE (q : cQ h y L W d R) (t : cQt h y L W d) {x sd : Int} (hc : ¬ tkC L x sd = -1) : fX3_columnOfEdge h y (tkE L x sd) = dCol L W d x sd := by
  obtain ⟨e1, e2, e3, e4, e5⟩ := tkE_h hc
  have tt := tkC_in (L := L) (x := x) (sd := sd)
  obtain ⟨q1, q2, q3, q4, q5, q6, q7⟩ := id q
  have ci := tt.1.resolve_left hc
  obtain ⟨t1, t2, t3⟩ := t _ ci.1 ci.2
  have w := cQ_w q ci.1 ci.2
  unfold fX3_columnOfEdge dCol
  rw [if_neg (by omega), e1, if_pos (by omega), t1, t3, w, if_neg hc]
  have lv := lV_in (s := sg L) q4 q5.1 q6 ci.1 ci.2
  generalize tkE L x sd = e at *
  generalize lV (sg L) L.length W d (tkC L x sd) = v at *
  by_cases z : v % 2 = 0
  · rw [if_pos z]
    by_cases b : tkB L x sd = 1
    · rw [if_pos b, if_neg (by omega)]
    · rw [if_neg b, if_pos (by omega)]; omega
  · rw [if_neg z]
    by_cases b : tkB L x sd = 0
    · rw [if_pos b, if_neg (by omega)]
    · rw [if_neg b, if_pos (by omega)]; omega
/-- the cluster up from a row and a column -/
noncomputable def upC (L : List Clu) (W d : Int) (j : Nat) (x : Int) : Int := lsF (fun k => 0 < lW (sg L) L.length W d (lS (sg L) L.length W d k) ∧ lC (sg L) L.length W d (lS (sg L) L.length W d k) ≤ x) (lS (sg L) L.length W d) (rSt (sg L) L.length W d (j + 1) - rSt (sg L) L.length W d j).toNat (rSt (sg L) L.length W d j) (lS (sg L) L.length W d (rSt (sg L) L.length W d j))
noncomputable def upP (L : List Clu) (W d len : Int) (j : Nat) (x : Int) : Int := if rSt (sg L) L.length W d j = rSt (sg L) L.length W d (j + 1) then len else tl L (upC L W d j x)
theorem C_onScreen (q : cQ h y L W d R) (t : cQt h y L W d) {j : Nat} (hj : j < R) {i : Int} (h0 : 0 ≤ i) : fX3_onScreen h y j i = if rSt (sg L) L.length W d (j + 1) ≤ rSt (sg L) L.length W d j + i then -1 else lS (sg L) L.length W d (rSt (sg L) L.length W d j + i) := by
  have st0 := cQ_st q (j := j) (by omega)
  have st1 := cQ_st q (j := j + 1) (by omega)
  rw [show ((j + 1 : Nat) : Int) = (j : Int) + 1 by omega] at st1
  have ii := cQ_in q j
  have q6 := q.2.2.2.2.2.1
  unfold fX3_onScreen fX3_cellsIn
  rw [if_neg (by omega), st0, st1]
  by_cases c : rSt (sg L) L.length W d (j + 1) ≤ rSt (sg L) L.length W d j + i
  · rw [if_pos (by omega), if_pos c]
  · rw [if_neg (by omega), if_neg (by omega), if_neg (by omega), if_neg c]
    exact (t _ (by omega) (by omega)).2.1
theorem C_placeUpL (q : cQ h y L W d R) (t : cQt h y L W d) {j : Nat} (hj : j < R) {x len : Int} (hl : h 512 y 0 = len) : vcl mX3_placeUp [(1, y), (0, j), (0, x)] h = some (.inl (some (0, upP L W d len j x)), h) := by
  obtain ⟨q1, q2, q3, q4, q5, q6, q7⟩ := id q
  have st0 := cQ_st q (j := j) (by omega)
  have st1 := cQ_st q (j := j + 1) (by omega)
  rw [show ((j + 1 : Nat) : Int) = (j : Int) + 1 by omega] at st1
  have ii := cQ_in q j
  have j131 := q3.2.1
  obtain ⟨f1, f2, f3, f4, f5, f6⟩ := row_f q4 q5.1 q3.1 q3.2.1 j
  have loop : ∀ (f : Nat) (i r : Int) (v6 : vv), rSt (sg L) L.length W d j + i + f = rSt (sg L) L.length W d (j + 1) → 0 ≤ i → vrun mX3_placeUp 17 [(1, y), (0, j), (0, x), (0, rSt (sg L) L.length W d (j + 1) - rSt (sg L) L.length W d j), (0, r), (0, i), v6] [] h = some (.inl (some (0, (fun z => if z < 0 then h 512 y 0 else (if 131 ≤ z then h 512 y 0 else h 2 (y + 4) z)) (lsF (fun k => 0 < lW (sg L) L.length W d (lS (sg L) L.length W d k) ∧ lC (sg L) L.length W d (lS (sg L) L.length W d k) ≤ x) (lS (sg L) L.length W d) f (rSt (sg L) L.length W d j + i) r))), h) := by
    intro f
    induction f with
    | zero =>
      intro i r v6 hf h0
      rw [rX3_placeUp_17 q1 (by omega) (by omega) (by omega) (by omega) (by omega) (by omega) (by omega) (by omega), if_pos (by omega)]
      rfl
    | succ f ih =>
      intro i r v6 hf h0
      have on := C_onScreen q t hj h0
      rw [if_neg (by omega)] at on
      have k1 := f1 (rSt (sg L) L.length W d j + i) (by omega) (by omega)
      obtain ⟨t1, t2, t3⟩ := t (lS (sg L) L.length W d (rSt (sg L) L.length W d j + i)) (by omega) (by omega)
      have w := cQ_w q (c := lS (sg L) L.length W d (rSt (sg L) L.length W d j + i)) (by omega) (by omega)
      rw [rX3_placeUp_17 q1 (by omega) (by omega) (by omega) (by omega) (by omega) (by omega) (by omega) (by omega), if_neg (by omega), on, if_neg (by omega), if_neg (by omega), w, t3, ih (i + 1) _ _ (by omega) (by omega), show rSt (sg L) L.length W d j + (i + 1) = rSt (sg L) L.length W d j + i + 1 by omega]
      have e : (if lW (sg L) L.length W d (lS (sg L) L.length W d (rSt (sg L) L.length W d j + i)) ≤ 0 then r else (if x < lC (sg L) L.length W d (lS (sg L) L.length W d (rSt (sg L) L.length W d j + i)) then r else lS (sg L) L.length W d (rSt (sg L) L.length W d j + i))) = @ite _ (0 < lW (sg L) L.length W d (lS (sg L) L.length W d (rSt (sg L) L.length W d j + i)) ∧ lC (sg L) L.length W d (lS (sg L) L.length W d (rSt (sg L) L.length W d j + i)) ≤ x) (Classical.propDecidable _) (lS (sg L) L.length W d (rSt (sg L) L.length W d j + i)) r := by
        by_cases z1 : lW (sg L) L.length W d (lS (sg L) L.length W d (rSt (sg L) L.length W d j + i)) ≤ 0
        · rw [if_pos z1, if_neg (by omega)]
        · rw [if_neg z1]
          by_cases z2 : x < lC (sg L) L.length W d (lS (sg L) L.length W d (rSt (sg L) L.length W d j + i))
          · rw [if_pos z2, if_neg (by omega)]
          · rw [if_neg z2, if_pos (by omega)]
      rw [e]
      rfl
  have on0 := C_onScreen q t hj (Int.le_refl 0)
  rw [Int.add_zero] at on0
  refine (rX3_placeUp_0 q1 (by omega) (by omega) (by omega) (by omega) (by omega) (by omega) (by omega) (by omega) (by omega) (by omega)).trans ?_
  unfold fX3_cellsIn
  rw [st0, st1, on0]
  have lp := loop (rSt (sg L) L.length W d (j + 1) - rSt (sg L) L.length W d j).toNat 0 (if rSt (sg L) L.length W d (j + 1) ≤ rSt (sg L) L.length W d j then -1 else lS (sg L) L.length W d (rSt (sg L) L.length W d j)) (9, 0) (by omega) (Int.le_refl _)
  rw [lp, Int.add_zero, hl]
  unfold upP
  by_cases c : rSt (sg L) L.length W d j = rSt (sg L) L.length W d (j + 1)
  · rw [if_pos c, if_pos (by omega), show (rSt (sg L) L.length W d (j + 1) - rSt (sg L) L.length W d j).toNat = 0 by omega]
    rfl
  · rw [if_neg c, if_neg (by omega)]
    have s0 := f1 _ (Int.le_refl _) (by omega)
    have inn : rSt (sg L) L.length W d j ≤ upC L W d j x ∧ upC L W d j x < rSt (sg L) L.length W d (j + 1) := by
      unfold upC
      rcases lsF_in (P := fun k => 0 < lW (sg L) L.length W d (lS (sg L) L.length W d k) ∧ lC (sg L) L.length W d (lS (sg L) L.length W d k) ≤ x) (q := lS (sg L) L.length W d) (rSt (sg L) L.length W d (j + 1) - rSt (sg L) L.length W d j).toNat (rSt (sg L) L.length W d j) (lS (sg L) L.length W d (rSt (sg L) L.length W d j)) with ⟨i, i1, i2, -, i4, -⟩ | ⟨-, i4⟩
      · rw [i4]; exact f1 i i1 (by omega)
      · rw [i4]; exact s0
    show some (Sum.inl (some (0, if upC L W d j x < 0 then len else (if 131 ≤ upC L W d j x then len else h 2 (y + 4) (upC L W d j x)))), h) = _
    rw [if_neg (by omega), if_neg (by omega), (kCl_g q2 (k := upC L W d j x) (by omega) (by omega)).2.2.2]
theorem C_firstPlace (q : cQ h y L W d R) {j : Nat} (hj : j < R) {len : Int} (hl : h 512 y 0 = len) : vcl mX3_firstPlace [(1, y), (0, j)] h = some (.inl (some (0, fpS L (if (j : Int) = (R : Int) - 1 then len else 0) (rSt (sg L) L.length W d (j + 1) - rSt (sg L) L.length W d j).toNat (rSt (sg L) L.length W d j))), h) := by
  obtain ⟨q1, q2, q3, q4, q5, q6, q7⟩ := id q
  have st0 := cQ_st q (j := j) (by omega)
  have st1 := cQ_st q (j := j + 1) (by omega)
  rw [show ((j + 1 : Nat) : Int) = (j : Int) + 1 by omega] at st1
  have ii := cQ_in q j
  have j131 := q3.2.1
  have rc := q3.2.2.1
  have loop : ∀ (f : Nat) (k : Int), k + f = rSt (sg L) L.length W d (j + 1) → 0 ≤ k → vrun mX3_firstPlace 10 [(1, y), (0, j), (0, k)] [] h = some (.inl (some (0, fpS L (if (j : Int) = (R : Int) - 1 then len else 0) f k)), h) := by
    intro f
    induction f with
    | zero =>
      intro k hk h0
      rw [rX3_firstPlace_10 (by omega) (by omega) q1 (by omega) (by omega) (by omega) (by omega) (by omega), if_pos (by omega), rc, hl]
      rfl
    | succ f ih =>
      intro k hk h0
      have g := (kCl_g q2 (k := k) h0 (by omega)).2.2.1
      rw [rX3_firstPlace_10 (by omega) (by omega) q1 (by omega) (by omega) (by omega) (by omega) (by omega), if_neg (by omega), if_neg (by omega), g]
      unfold fpS
      by_cases c : bg L k = -1
      · rw [if_pos c, if_pos c]; exact ih (k + 1) (by omega) (by omega)
      · rw [if_neg c, if_neg c]
  refine (rX3_firstPlace_0 q1).trans ?_
  rw [st0, show max (rSt (sg L) L.length W d j) 0 = rSt (sg L) L.length W d j by omega]
  exact loop _ _ (by omega) ii.1
theorem C_lastPlace (q : cQ h y L W d R) {j : Nat} (hj : j < R) {len : Int} (hl : h 512 y 0 = len) : vcl mX3_lastPlace [(1, y), (0, j)] h = some (.inl (some (0, if (j : Int) = (R : Int) - 1 then len else lpM L (rSt (sg L) L.length W d (j + 1) - rSt (sg L) L.length W d j).toNat (rSt (sg L) L.length W d j) (-1))), h) := by
  obtain ⟨q1, q2, q3, q4, q5, q6, q7⟩ := id q
  have st0 := cQ_st q (j := j) (by omega)
  have st1 := cQ_st q (j := j + 1) (by omega)
  rw [show ((j + 1 : Nat) : Int) = (j : Int) + 1 by omega] at st1
  have ii := cQ_in q j
  have j131 := q3.2.1
  have rc := q3.2.2.1
  have loop : ∀ (f : Nat) (k r : Int), k + f = rSt (sg L) L.length W d (j + 1) → 0 ≤ k → vrun mX3_lastPlace 27 [(1, y), (0, j), (0, r), (0, k)] [] h = some (.inl (some (0, lpM L f k r)), h) := by
    intro f
    induction f with
    | zero =>
      intro k r hk h0
      rw [rX3_lastPlace_27 (by omega) (by omega) q1 (by omega), if_pos (by omega)]
      rfl
    | succ f ih =>
      intro k r hk h0
      have g := (kCl_g q2 (k := k) h0 (by omega)).2.2.1
      rw [rX3_lastPlace_27 (by omega) (by omega) q1 (by omega), if_neg (by omega), if_neg (by omega), g]
      exact ih (k + 1) _ (by omega) (by omega)
  refine (show _ = _ from rX3_lastPlace_0 q1 (by omega) (by omega)).trans ?_
  rw [rc, hl]
  by_cases c : (j : Int) = (R : Int) - 1
  · rw [if_pos c, if_pos c]
  · rw [if_neg c, if_neg c, st0, show max (rSt (sg L) L.length W d j) 0 = rSt (sg L) L.length W d j by omega]
    exact loop _ _ _ (by omega) ii.1
theorem C_shownAhead (q : cQ h y L W d R) {x : Int} : vcl mX3_shownAhead [(1, y), (0, x)] h = some (.inl (some (0, saF L x L.length 0 (-1))), h) := by
  obtain ⟨q1, q2, q3, q4, q5, q6, q7⟩ := id q
  have c1 := q2.1
  have loop : ∀ (f : Nat) (k r : Int), k + f = L.length → 0 ≤ k → vrun mX3_shownAhead 4 [(1, y), (0, x), (0, r), (0, k)] [] h = some (.inl (some (0, saF L x f k r)), h) := by
    intro f
    induction f with
    | zero =>
      intro k r hk h0
      rw [rX3_shownAhead_4 q1 (by omega), if_pos (by omega)]
      rfl
    | succ f ih =>
      intro k r hk h0
      have g := (kCl_g q2 (k := k) h0 (by omega)).2.2.1
      rw [rX3_shownAhead_4 q1 (by omega), if_neg (by omega), if_neg (by omega), g]
      exact ih (k + 1) _ (by omega) (by omega)
  exact rX3_shownAhead_0.trans (loop _ 0 (-1) (by omega) (Int.le_refl _))
theorem C_shownBehind (q : cQ h y L W d R) {x len : Int} (hl : h 512 y 0 = len) : vcl mX3_shownBehind [(1, y), (0, x)] h = some (.inl (some (0, sbF L x (if len ≤ x then -1 else len) L.length 0)), h) := by
  obtain ⟨q1, q2, q3, q4, q5, q6, q7⟩ := id q
  have c1 := q2.1
  have loop : ∀ (f : Nat) (k : Int), k + f = L.length → 0 ≤ k → vrun mX3_shownBehind 2 [(1, y), (0, x), (0, k)] [] h = some (.inl (some (0, sbF L x (if len ≤ x then -1 else len) f k)), h) := by
    intro f
    induction f with
    | zero =>
      intro k hk h0
      rw [rX3_shownBehind_2 q1 (by omega), if_pos (by omega), hl]
      rfl
    | succ f ih =>
      intro k hk h0
      have g := (kCl_g q2 (k := k) h0 (by omega)).2.2.1
      rw [rX3_shownBehind_2 q1 (by omega), if_neg (by omega), if_neg (by omega), g]
      unfold sbF
      by_cases c : bg L k ≤ x
      · rw [if_pos c, if_pos c]; exact ih (k + 1) (by omega) (by omega)
      · rw [if_neg c, if_neg c]
  exact rX3_shownBehind_0.trans (loop _ 0 (by omega) (Int.le_refl _))
end CQ

