/-! what the reference tells of a line that is laid -/
def mQ (h : vH) (L : List Clu) (W d : Int) (R : Nat) : Prop := mCl h L ∧ (isR (sg L) L.length W d R ∧ R ≤ 131) ∧ h 1541 282 0 = (R : Int) ∧ (∀ j : Nat, j ≤ R → h 2 320 j = rSt (sg L) L.length W d j) ∧ (∀ c : Int, 0 ≤ c → c < L.length → h 2 315 c = lW (sg L) L.length W d c ∧ h 2 316 c = lV (sg L) L.length W d c ∧ h 2 319 c = lS (sg L) L.length W d c ∧ h 2 317 c = lC (sg L) L.length W d c ∧ h 2 318 c = (rowO (sg L) L.length W d c : Int)) ∧ (0 ≤ d ∧ d ≤ 4) ∧ (10 ≤ W ∧ W ≤ 40) ∧ L.length ≤ 131 ∧ ∀ z ∈ L, cluB z
section MQ
variable {h : vH} {p l : Int} {L : List Clu} {W d : Int} {R : Nat}
theorem mQ_of (m : mLaid h L W d R) (hd : 0 ≤ d ∧ d ≤ 4) (hW : 10 ≤ W ∧ W ≤ 40) (h131 : L.length ≤ 131) (hB : ∀ z ∈ L, cluB z) : mQ h L W d R := by
  obtain ⟨m1, m2, m3, m4⟩ := m
  have m2 : mRs h (sg L) L.length W d R := m2
  have m4 : ∀ j : Nat, j < R → mRow h (sg L) L.length W d j := m4
  obtain ⟨r1, r2, r3, r4, r5, r6⟩ := m2
  have en := isR_end (by omega) hd hW.1 r1
  refine ⟨m1, ⟨r1, r2⟩, r3, fun j hj => ?_, fun c h0 hc => ?_, hd, hW, h131, hB⟩
  · by_cases z : j = R
    · rw [z, r5, en]
    · exact r4 j (by omega)
  · obtain ⟨q1, q2, q3⟩ := rowO_in hd hW.1 r1 r2 h0 hc
    obtain ⟨a1, a2⟩ := r6 _ q1 c q2 q3
    obtain ⟨b1, b2, b3⟩ := m4 _ q1 c q2 q3
    exact ⟨a1, b1, b2, b3, a2⟩
theorem M_laysQ (g : mG h) (hp : 0 ≤ p ∧ p < 4) (hl : 0 ≤ l ∧ l < 60) : ∃ h2 R, vcl mX13_lays [(1, 282), (0, p), (0, l)] h = some (.inl none, h2) ∧ mF sA sK h h2 ∧ mQ h2 (mCL h p l) (h 2 286 p) (h 2 287 p) R := by
  obtain ⟨h2, R, a1, a2, a3, a4⟩ := M_lays g hp hl
  have gp := g.2.2.2 p hp.1 hp.2
  exact ⟨h2, R, a1, a2, mQ_of a4 gp.2.2 gp.2.1 a3 (mCL_B (g.2.2.1 l hl.1 hl.2))⟩
theorem mQ_in (q : mQ h L W d R) (j : Nat) : 0 ≤ rSt (sg L) L.length W d j ∧ rSt (sg L) L.length W d j ≤ rSt (sg L) L.length W d (j + 1) ∧ rSt (sg L) L.length W d (j + 1) ≤ L.length := by
  obtain ⟨-, -, -, -, -, q4, q5, -⟩ := q
  have p0 := rSt_in (s := sg L) (n := L.length) (W := W) (d := d) (by omega) q4 q5.1 j
  have p1 := rSt_in (s := sg L) (n := L.length) (W := W) (d := d) (by omega) q4 q5.1 (j + 1)
  have up := rSt_up (s := sg L) (n := L.length) q4 q5.1 j
  omega
/-- the reference goes down -/
theorem M_downRow (g : mG h) (hp : 0 ≤ p ∧ p < 4) {l : Nat} (hl : l < 60) {x sd : Int} : ∃ h2, vcl mX13_downRow [(1, 282), (0, p), (0, l), (0, x), (0, sd)] h = some (.inl (some (0, mRA h p l + dRow (mCL h p l) (h 2 286 p) (h 2 287 p) x sd)), h2) ∧ mF sA sK h h2 := by
  obtain ⟨h1, a1, a2⟩ := M_rowsAhead g hp (n := l) (by omega)
  have g1 := mG_sc a2 g
  have x1 := sF_pR a2
  obtain ⟨h2, R, b1, b2, b3⟩ := M_laysQ g1 hp (l := l) ⟨by omega, by omega⟩
  rw [mCL_eq x1, x1 _ _ (by decide) (by decide), x1 _ _ (by decide) (by decide)] at b3
  have g2 := mG_sc b2 g1
  obtain ⟨c1, c2, c3, c4, c5, c6, c7, c8, c9⟩ := b3
  obtain ⟨h3, d1, d2, d3⟩ := M_taken g2.1 c1 c8 c9 (x := x) (sd := sd)
  have f3 : mF sA sK h h3 := mF_tr a2 (mF_tr b2 (mF_le d2 (by decide) (by decide)))
  have g3 := mG_sc f3 g
  refine ⟨h3, ?_, f3⟩
  have ma := mRA_in g hp l (by omega)
  have tt := tkC_in (L := mCL h p l) (x := x) (sd := sd)
  have rr : ¬ tkC (mCL h p l) x sd = -1 → h3 2 318 (tkC (mCL h p l) x sd) = (rowO (sg (mCL h p l)) (mCL h p l).length (h 2 286 p) (h 2 287 p) (tkC (mCL h p l) x sd) : Int) ∧ rowO (sg (mCL h p l)) (mCL h p l).length (h 2 286 p) (h 2 287 p) (tkC (mCL h p l) x sd) < R := by
    intro z
    have ci := tt.1.resolve_left z
    exact ⟨(d2 _ _ _ (by simp) (by simp)).trans (c5 _ ci.1 ci.2).2.2.2.2, (rowO_in c6 c7.1 c2.1 c2.2 ci.1 ci.2).1⟩
  have r131 := c2.2
  refine (rX13_downRow_0 g.1).trans ((vret_v a1).trans ?_)
  refine (rX13_downRow_6 g1.1).trans ((vret_n b1).trans ?_)
  refine (rX13_downRow_14 g2.1).trans ((vret_v d1).trans ?_)
  refine (rX13_downRow_21 g3.1 (by omega) (by omega) (fun z => ?_) (fun z => ?_)).trans ?_
  · have := rr z; omega
  · have := rr z; omega
  · unfold dRow
    by_cases z : tkC (mCL h p l) x sd = -1
    · rw [if_pos z, if_pos z, Int.add_zero]
    · rw [if_neg z, if_neg z, (rr z).1]
theorem M_downColumn (g : mG h) (hp : 0 ≤ p ∧ p < 4) (hl : 0 ≤ l ∧ l < 60) {x sd : Int} : ∃ h2, vcl mX13_downColumn [(1, 282), (0, p), (0, l), (0, x), (0, sd)] h = some (.inl (some (0, dCol (mCL h p l) (h 2 286 p) (h 2 287 p) x sd)), h2) ∧ mF sA sK h h2 := by
  obtain ⟨h2, R, b1, b2, b3⟩ := M_laysQ g hp (l := l) hl
  have g2 := mG_sc b2 g
  obtain ⟨c1, c2, c3, c4, c5, c6, c7, c8, c9⟩ := b3
  obtain ⟨h3, d1, d2, d3⟩ := M_taken g2.1 c1 c8 c9 (x := x) (sd := sd)
  have f3 : mF sA sK h h3 := mF_tr b2 (mF_le d2 (by decide) (by decide))
  have g3 := mG_sc f3 g
  refine ⟨h3, ?_, f3⟩
  have tt := tkC_in (L := mCL h p l) (x := x) (sd := sd)
  have rr : ¬ tkC (mCL h p l) x sd = -1 → h3 2 317 (tkC (mCL h p l) x sd) = lC (sg (mCL h p l)) (mCL h p l).length (h 2 286 p) (h 2 287 p) (tkC (mCL h p l) x sd) ∧ h3 2 316 (tkC (mCL h p l) x sd) = lV (sg (mCL h p l)) (mCL h p l).length (h 2 286 p) (h 2 287 p) (tkC (mCL h p l) x sd) ∧ h3 2 315 (tkC (mCL h p l) x sd) = lW (sg (mCL h p l)) (mCL h p l).length (h 2 286 p) (h 2 287 p) (tkC (mCL h p l) x sd) ∧ (0 ≤ lC (sg (mCL h p l)) (mCL h p l).length (h 2 286 p) (h 2 287 p) (tkC (mCL h p l) x sd) ∧ lC (sg (mCL h p l)) (mCL h p l).length (h 2 286 p) (h 2 287 p) (tkC (mCL h p l) x sd) ≤ 600 ∧ 0 ≤ lW (sg (mCL h p l)) (mCL h p l).length (h 2 286 p) (h 2 287 p) (tkC (mCL h p l) x sd) ∧ lW (sg (mCL h p l)) (mCL h p l).length (h 2 286 p) (h 2 287 p) (tkC (mCL h p l) x sd) ≤ 4) ∧ 0 ≤ lV (sg (mCL h p l)) (mCL h p l).length (h 2 286 p) (h 2 287 p) (tkC (mCL h p l) x sd) := by
    intro z
    have ci := tt.1.resolve_left z
    obtain ⟨w1, w2, w3, w4, w5⟩ := c5 _ ci.1 ci.2
    exact ⟨(d2 _ _ _ (by simp) (by simp)).trans w4, (d2 _ _ _ (by simp) (by simp)).trans w2, (d2 _ _ _ (by simp) (by simp)).trans w1, lC_in c6 c7.1 c2.1 c2.2 c8 ci.1 ci.2, (lV_in c6 c7.1 c8 ci.1 ci.2).1⟩
  refine (rX13_downColumn_0 g.1).trans ((vret_n b1).trans ?_)
  refine (rX13_downColumn_6 g2.1).trans ((vret_v d1).trans ?_)
  refine (show _ = _ from rX13_downColumn_13 g3.1 (by omega) (by omega) (fun z => ?_) (fun z => ?_) (fun z => ?_)).trans ?_
  · have := rr z; omega
  · obtain ⟨r1, r2, r3, r4, r5⟩ := rr z
    have : 0 ≤ (if h3 1542 282 0 = (if h3 2 316 (tkC (mCL h p l) x sd) % 2 = 0 then 1 else 0) then h3 2 315 (tkC (mCL h p l) x sd) else 0) := by split <;> omega
    omega
  · obtain ⟨r1, r2, r3, r4, r5⟩ := rr z
    have : (if h3 1542 282 0 = (if h3 2 316 (tkC (mCL h p l) x sd) % 2 = 0 then 1 else 0) then h3 2 315 (tkC (mCL h p l) x sd) else 0) ≤ 4 := by split <;> omega
    omega
  · unfold dCol
    by_cases z : tkC (mCL h p l) x sd = -1
    · rw [if_pos z, if_pos z]
    · obtain ⟨r1, r2, r3, r4, r5⟩ := rr z
      rw [if_neg z, if_neg z, r1, r2, r3, d3]
/-- the row of a line that a row of the pane is -/
theorem M_laysRow (g : mG h) (hp : 0 ≤ p ∧ p < 4) {r : Int} (hr : isRw h p r) (r31 : r < 2147483648) : ∃ h2 R, vcl mX13_laysRow [(1, 282), (0, p), (0, r)] h = some (.inl (some (0, r - mRA h p (mLn h p r))), h2) ∧ mF sA sK h h2 ∧ mQ h2 (mCL h p (mLn h p r)) (h 2 286 p) (h 2 287 p) R ∧ 0 ≤ r - mRA h p (mLn h p r) ∧ r - mRA h p (mLn h p r) < R := by
  have li := mLn_in g hr
  have gl := g.2.1
  obtain ⟨h1, a1, a2⟩ := M_lineOf g hp hr r31
  have g1 := mG_sc a2 g
  have x1 := sF_pR a2
  obtain ⟨h2, b1, b2⟩ := M_rowsAhead g1 hp (n := mLn h p r) (by omega)
  rw [mRA_eq x1] at b1
  have f2 := mF_tr a2 b2
  have g2 := mG_sc f2 g
  have x2 := sF_pR f2
  obtain ⟨h3, R, c1, c2, c3⟩ := M_laysQ g2 hp (l := mLn h p r) ⟨by omega, by omega⟩
  rw [mCL_eq x2, x2 _ _ (by decide) (by decide), x2 _ _ (by decide) (by decide)] at c3
  have f3 := mF_tr f2 c2
  have ma := mRA_in g hp (mLn h p r) (by omega)
  refine ⟨h3, R, ?_, f3, c3, by omega, ?_⟩
  · refine (rX13_laysRow_0 g.1).trans ((vret_v a1).trans ?_)
    refine (rX13_laysRow_6 g1.1).trans ((vret_v b1).trans ?_)
    refine (rX13_laysRow_14 (by omega) (by omega) g2.1).trans ((vret_n c1).trans ?_)
    exact rX13_laysRow_23
  · have mc : mRC h p (mLn h p r) ≤ R := by
      unfold mRC
      split
      · omega
      · have : rC (mS h p (mLn h p r)) (mN h p (mLn h p r)) (h 2 286 p) (h 2 287 p) = R := rC_eq c3.2.1.1
        omega
    omega
theorem fpS_in {z : Int} (hB : ∀ c ∈ L, cluB c) (hz : 0 ≤ z ∧ z ≤ 80) : ∀ (f : Nat) (k : Int), 0 ≤ k → k + f ≤ L.length → 0 ≤ fpS L z f k ∧ fpS L z f k ≤ 80
  | 0, _, _, _ => hz
  | f + 1, k, h0, hk => by
    have b := hB _ (getD_mem (L := L) h0 (by omega))
    have b1 : -1 ≤ bg L k ∧ bg L k < 80 := ⟨b.2.2.1, b.2.2.2.1⟩
    unfold fpS
    split
    · exact fpS_in hB hz f (k + 1) (by omega) (by omega)
    · omega
theorem M_placeOf (g : mG h) (hp : 0 ≤ p ∧ p < 4) {r : Int} (hr : isRw h p r) (r31 : r < 2147483648) : ∃ (h2 : vH) (R : Nat), vcl mX13_placeOf [(1, 282), (0, p), (0, r)] h = some (.inl (some (0, fpS (mCL h p (mLn h p r)) (if r - mRA h p (mLn h p r) = (R : Int) - 1 then h 2 284 (mLn h p r) else 0) (rSt (sg (mCL h p (mLn h p r))) (mCL h p (mLn h p r)).length (h 2 286 p) (h 2 287 p) ((r - mRA h p (mLn h p r)).toNat + 1) - rSt (sg (mCL h p (mLn h p r))) (mCL h p (mLn h p r)).length (h 2 286 p) (h 2 287 p) (r - mRA h p (mLn h p r)).toNat).toNat (rSt (sg (mCL h p (mLn h p r))) (mCL h p (mLn h p r)).length (h 2 286 p) (h 2 287 p) (r - mRA h p (mLn h p r)).toNat))), h2) ∧ mF sA sK h h2 ∧ isR (sg (mCL h p (mLn h p r))) (mCL h p (mLn h p r)).length (h 2 286 p) (h 2 287 p) R := by
  have li := mLn_in g hr
  have gl := g.2.1
  obtain ⟨h1, a1, a2⟩ := M_lineOf g hp hr r31
  have g1 := mG_sc a2 g
  have x1 := sF_pR a2
  have hr1 : isRw h1 p r := by
    unfold isRw
    rw [mRA_eq x1, a2 _ _ _ (by simp) (by simp)]
    exact hr
  obtain ⟨h2, R, b1, b2, b3, b4, b5⟩ := M_laysRow g1 hp hr1 r31
  rw [mLn_eq x1, mRA_eq x1] at b1 b4 b5
  rw [mLn_eq x1, mCL_eq x1, x1 _ _ (by decide) (by decide), x1 _ _ (by decide) (by decide)] at b3
  have f2 := mF_tr a2 b2
  have g2 := mG_sc f2 g
  generalize hL : mCL h p (mLn h p r) = L at b3 ⊢
  generalize hj : (r - mRA h p (mLn h p r)).toNat = j at *
  have ej : r - mRA h p (mLn h p r) = (j : Int) := by omega
  rw [ej] at b1 b4 b5 ⊢
  have ii := mQ_in b3 j
  obtain ⟨c1, c2, c3, c4, c5, c6, c7, c8, c9⟩ := id b3
  have r131 := c2.2
  have e0 := c4 j (by omega)
  have e1 := c4 (j + 1) (by omega)
  rw [show ((j + 1 : Nat) : Int) = (j : Int) + 1 by omega] at e1
  have el : h2 2 284 (mLn h p r) = h 2 284 (mLn h p r) := sF_pR f2 _ _ (by decide) (by decide)
  have loop : ∀ (f : Nat) (k : Int), k + f = rSt (sg L) L.length (h 2 286 p) (h 2 287 p) (j + 1) → 0 ≤ k → vrun mX13_placeOf 24 [(1, 282), (0, p), (0, r), (0, mLn h p r), (0, j), (0, k)] [] h2 = some (.inl (some (0, fpS L (if (j : Int) = (R : Int) - 1 then h 2 284 (mLn h p r) else 0) f k)), h2) := by
    intro f
    induction f with
    | zero =>
      intro k hk h0
      rw [rX13_placeOf_24 g2.1 (by omega) (by omega) (by omega) (by omega) (by omega) (by omega) (by omega) (by omega) (by omega) (by omega), if_pos (by omega), c3, el]
      rfl
    | succ f ih =>
      intro k hk h0
      have gg := (mCl_g c1 (k := k) h0 (by omega)).2.2.1
      rw [rX13_placeOf_24 g2.1 (by omega) (by omega) (by omega) (by omega) (by omega) (by omega) (by omega) (by omega) (by omega) (by omega), if_neg (by omega), gg]
      unfold fpS
      by_cases c : bg L k = -1
      · rw [if_pos c, if_pos c]; exact ih (k + 1) (by omega) (by omega)
      · rw [if_neg c, if_neg c]
  refine ⟨h2, R, ?_, f2, c2.1⟩
  refine (rX13_placeOf_0 g.1).trans ((vret_v a1).trans ?_)
  refine (rX13_placeOf_6 g1.1).trans ((vret_v b1).trans ?_)
  refine (rX13_placeOf_13 g2.1 (by omega) (by omega)).trans ?_
  rw [e0]
  exact loop _ _ (by omega) ii.1
/-- the reference goes up -/
theorem M_goesUp (g : mG h) (hp : 0 ≤ p ∧ p < 4) {r x : Int} (hr : isRw h p r) (r31 : r < 2147483648) : ∃ h2, vcl mX13_goesUp [(1, 282), (0, p), (0, r), (0, x)] h = some (.inl (some (0, upP (mCL h p (mLn h p r)) (h 2 286 p) (h 2 287 p) (h 2 284 (mLn h p r)) (r - mRA h p (mLn h p r)).toNat x)), h2) ∧ mF sA sK h h2 := by
  have li := mLn_in g hr
  have gl := g.2.1
  obtain ⟨h1, a1, a2⟩ := M_lineOf g hp hr r31
  have g1 := mG_sc a2 g
  have x1 := sF_pR a2
  have hr1 : isRw h1 p r := by
    unfold isRw
    rw [mRA_eq x1, a2 _ _ _ (by simp) (by simp)]
    exact hr
  obtain ⟨h2, R, b1, b2, b3, b4, b5⟩ := M_laysRow g1 hp hr1 r31
  rw [mLn_eq x1, mRA_eq x1] at b1 b4 b5
  rw [mLn_eq x1, mCL_eq x1, x1 _ _ (by decide) (by decide), x1 _ _ (by decide) (by decide)] at b3
  have f2 := mF_tr a2 b2
  have g2 := mG_sc f2 g
  generalize hL : mCL h p (mLn h p r) = L at b3 ⊢
  generalize hj : (r - mRA h p (mLn h p r)).toNat = j at *
  have ej : r - mRA h p (mLn h p r) = (j : Int) := by omega
  rw [ej] at b1 b4 b5
  generalize hw : h 2 286 p = W at *
  generalize hd : h 2 287 p = d at *
  have ii := mQ_in b3 j
  obtain ⟨c1, c2, c3, c4, c5, c6, c7, c8, c9⟩ := id b3
  have r131 := c2.2
  have e0 := c4 j (by omega)
  have e1 := c4 (j + 1) (by omega)
  rw [show ((j + 1 : Nat) : Int) = (j : Int) + 1 by omega] at e1
  have el : h2 2 284 (mLn h p r) = h 2 284 (mLn h p r) := sF_pR f2 _ _ (by decide) (by decide)
  obtain ⟨f1, f2', f3, f4, f5, f6⟩ := row_f c6 c7.1 c2.1 c2.2 j
  refine ⟨h2, ?_, f2⟩
  refine (rX13_goesUp_0 g.1).trans ((vret_v a1).trans ?_)
  refine (rX13_goesUp_6 g1.1).trans ((vret_v b1).trans ?_)
  refine (show _ = _ from rX13_goesUp_14 g2.1 (by omega) (by omega) (by omega) (by omega) (by omega) (by omega) (by omega) (by omega) (by omega)).trans ?_
  unfold upP
  rw [e0, e1, el]
  by_cases ce : rSt (sg L) L.length W d j = rSt (sg L) L.length W d (j + 1)
  · rw [if_pos ce, if_pos ce]
  · rw [if_neg ce, if_neg ce]
    have lt : rSt (sg L) L.length W d j < rSt (sg L) L.length W d (j + 1) := by omega
    -- position facts
    have pf : ∀ k, rSt (sg L) L.length W d j ≤ k → k < rSt (sg L) L.length W d (j + 1) → h2 2 319 k = lS (sg L) L.length W d k ∧ (0 ≤ lS (sg L) L.length W d k ∧ lS (sg L) L.length W d k < L.length) ∧ h2 2 315 (lS (sg L) L.length W d k) = lW (sg L) L.length W d (lS (sg L) L.length W d k) ∧ h2 2 317 (lS (sg L) L.length W d k) = lC (sg L) L.length W d (lS (sg L) L.length W d k) ∧ (0 ≤ lC (sg L) L.length W d (lS (sg L) L.length W d k) ∧ lC (sg L) L.length W d (lS (sg L) L.length W d k) ≤ 600) ∧ 0 ≤ lW (sg L) L.length W d (lS (sg L) L.length W d k) ∧ lW (sg L) L.length W d (lS (sg L) L.length W d k) ≤ 4 := by
      intro k u v
      have q := f1 k u v
      have q2 := c5 (lS (sg L) L.length W d k) (by omega) (by omega)
      have q3 := lC_in c6 c7.1 c2.1 c2.2 c8 (c := lS (sg L) L.length W d k) (by omega) (by omega)
      exact ⟨(c5 k (by omega) (by omega)).2.2.1, ⟨by omega, by omega⟩, q2.1, q2.2.2.2.1, ⟨q3.1, q3.2.1⟩, q3.2.2⟩
    have last := pf (rSt (sg L) L.length W d (j + 1) - 1) (by omega) (by omega)
    have first := pf _ (Int.le_refl _) lt
    rw [last.1]
    -- the last one that is wide
    obtain ⟨kw, kw1, kw2, kw3⟩ := f5 lt
    have lw := lsF_in (P := fun k => 0 < lW (sg L) L.length W d (lS (sg L) L.length W d k)) (q := fun k => k) (rSt (sg L) L.length W d (j + 1) - rSt (sg L) L.length W d j).toNat (rSt (sg L) L.length W d j) 0
    rw [show rSt (sg L) L.length W d j + ((rSt (sg L) L.length W d (j + 1) - rSt (sg L) L.length W d j).toNat : Int) = rSt (sg L) L.length W d (j + 1) by omega] at lw
    obtain ⟨iL, i1, i2, i3, -, i5⟩ := lw.resolve_right (fun z => z.1 kw kw1 kw2 kw3)
    have fnd : ∀ (f : Nat) (k rr : Int) (v11 : vv), k + f = rSt (sg L) L.length W d (j + 1) → rSt (sg L) L.length W d j ≤ k → ∃ v11', vrun mX13_goesUp 69 [(1, 282), (0, p), (0, r), (0, x), (0, mLn h p r), (0, j), (0, rSt (sg L) L.length W d j), (0, rSt (sg L) L.length W d (j + 1)), (0, rr), (0, lS (sg L) L.length W d (rSt (sg L) L.length W d (j + 1) - 1)), (0, k), v11] [] h2 = vrun mX13_goesUp 146 [(1, 282), (0, p), (0, r), (0, x), (0, mLn h p r), (0, j), (0, rSt (sg L) L.length W d j), (0, rSt (sg L) L.length W d (j + 1)), (0, lsF (fun k => 0 < lW (sg L) L.length W d (lS (sg L) L.length W d k) ∧ lC (sg L) L.length W d (lS (sg L) L.length W d k) ≤ x ∧ x < lC (sg L) L.length W d (lS (sg L) L.length W d k) + lW (sg L) L.length W d (lS (sg L) L.length W d k)) (lS (sg L) L.length W d) f k rr), (0, lS (sg L) L.length W d (rSt (sg L) L.length W d (j + 1) - 1)), (0, rSt (sg L) L.length W d (j + 1) - 1), v11'] [] h2 := by
      intro f
      induction f with
      | zero =>
        intro k rr v11 hk ha
        refine ⟨v11, ?_⟩
        rw [rX13_goesUp_69 (by omega) (by omega) g2.1 (by omega) (by omega) (by omega) (by omega) (by omega) (by omega), if_pos (by omega)]
        rfl
      | succ f ih =>
        intro k rr v11 hk ha
        obtain ⟨p1, p2, p3, p4, p5, p6⟩ := pf k ha (by omega)
        obtain ⟨v11', e⟩ := ih (k + 1) (@ite _ (0 < lW (sg L) L.length W d (lS (sg L) L.length W d k) ∧ lC (sg L) L.length W d (lS (sg L) L.length W d k) ≤ x ∧ x < lC (sg L) L.length W d (lS (sg L) L.length W d k) + lW (sg L) L.length W d (lS (sg L) L.length W d k)) (Classical.propDecidable _) (lS (sg L) L.length W d k) rr) (0, lS (sg L) L.length W d k) (by omega) (by omega)
        refine ⟨v11', ?_⟩
        refine Eq.trans ?_ e
        rw [rX13_goesUp_69 (by omega) (by omega) g2.1 (by omega) (by omega) (by omega) (by omega) (by rw [p1]; omega) (by rw [p1]; omega), if_neg (by omega), p1, p3, p4]
        have nn : (if lW (sg L) L.length W d (lS (sg L) L.length W d k) ≤ 0 then rr else (if x < lC (sg L) L.length W d (lS (sg L) L.length W d k) then rr else (if lC (sg L) L.length W d (lS (sg L) L.length W d k) + lW (sg L) L.length W d (lS (sg L) L.length W d k) ≤ x then rr else lS (sg L) L.length W d k))) = @ite _ (0 < lW (sg L) L.length W d (lS (sg L) L.length W d k) ∧ lC (sg L) L.length W d (lS (sg L) L.length W d k) ≤ x ∧ x < lC (sg L) L.length W d (lS (sg L) L.length W d k) + lW (sg L) L.length W d (lS (sg L) L.length W d k)) (Classical.propDecidable _) (lS (sg L) L.length W d k) rr := by
          by_cases z1 : lW (sg L) L.length W d (lS (sg L) L.length W d k) ≤ 0
          · rw [if_pos z1, if_neg (by omega)]
          · rw [if_neg z1]
            by_cases z2 : x < lC (sg L) L.length W d (lS (sg L) L.length W d k)
            · rw [if_pos z2, if_neg (by omega)]
            · rw [if_neg z2]
              by_cases z3 : lC (sg L) L.length W d (lS (sg L) L.length W d k) + lW (sg L) L.length W d (lS (sg L) L.length W d k) ≤ x
              · rw [if_pos z3, if_neg (by omega)]
              · rw [if_neg z3, if_pos (by omega)]
        rw [nn]
    obtain ⟨v11, ef⟩ := fnd (rSt (sg L) L.length W d (j + 1) - rSt (sg L) L.length W d j).toNat (rSt (sg L) L.length W d j) (-1) (9, 0) (by omega) (Int.le_refl _)
    refine ef.trans ?_
    have us := up_same (q := lS (sg L) L.length W d) (u := fun k => lW (sg L) L.length W d (lS (sg L) L.length W d k)) (v := fun k => lC (sg L) L.length W d (lS (sg L) L.length W d k)) (a := rSt (sg L) L.length W d j) (t := rSt (sg L) L.length W d (j + 1)) (x := x) (iL := iL) (fun k u v => (pf k u v).2.1.1) (fun k u v => (pf k u v).2.2.2.2.2.1) (fun k u v => f2' k u v) ⟨i1, i2, i3⟩ i5
    have fin : upC L W d j x = _ := us.symm
    have iB := pf iL i1 i2
    -- what is found lies in the row
    have gB : ∀ z, z = lsF (fun k => 0 < lW (sg L) L.length W d (lS (sg L) L.length W d k) ∧ lC (sg L) L.length W d (lS (sg L) L.length W d k) ≤ x ∧ x < lC (sg L) L.length W d (lS (sg L) L.length W d k) + lW (sg L) L.length W d (lS (sg L) L.length W d k)) (lS (sg L) L.length W d) (rSt (sg L) L.length W d (j + 1) - rSt (sg L) L.length W d j).toNat (rSt (sg L) L.length W d j) (-1) → z = -1 ∨ (0 ≤ z ∧ z < L.length) := by
      intro z hz
      rcases lsF_in (P := fun k => 0 < lW (sg L) L.length W d (lS (sg L) L.length W d k) ∧ lC (sg L) L.length W d (lS (sg L) L.length W d k) ≤ x ∧ x < lC (sg L) L.length W d (lS (sg L) L.length W d k) + lW (sg L) L.length W d (lS (sg L) L.length W d k)) (q := lS (sg L) L.length W d) (rSt (sg L) L.length W d (j + 1) - rSt (sg L) L.length W d j).toNat (rSt (sg L) L.length W d j) (-1) with ⟨i, y1, y2, -, y4, -⟩ | ⟨-, y4⟩
      · rw [y4] at hz
        have := (pf i y1 (by omega)).2.1
        rw [hz]; exact Or.inr this
      · rw [y4] at hz; exact Or.inl hz
    generalize hG : lsF (fun k => 0 < lW (sg L) L.length W d (lS (sg L) L.length W d k) ∧ lC (sg L) L.length W d (lS (sg L) L.length W d k) ≤ x ∧ x < lC (sg L) L.length W d (lS (sg L) L.length W d k) + lW (sg L) L.length W d (lS (sg L) L.length W d k)) (lS (sg L) L.length W d) (rSt (sg L) L.length W d (j + 1) - rSt (sg L) L.length W d j).toNat (rSt (sg L) L.length W d j) (-1) = G at fin gB ⊢
    have gB := gB G rfl
    have tell : ∀ x9 : Int, 0 ≤ x9 ∧ x9 < L.length → h2 2 314 (if G = -1 then (if h2 2 317 (h2 2 319 (rSt (sg L) L.length W d j)) ≤ x then x9 else h2 2 319 (rSt (sg L) L.length W d j)) else G) = tl L (if G = -1 then (if lC (sg L) L.length W d (lS (sg L) L.length W d (rSt (sg L) L.length W d j)) ≤ x then x9 else lS (sg L) L.length W d (rSt (sg L) L.length W d j)) else G) ∧ 0 ≤ (if G = -1 then (if h2 2 317 (h2 2 319 (rSt (sg L) L.length W d j)) ≤ x then x9 else h2 2 319 (rSt (sg L) L.length W d j)) else G) ∧ (if G = -1 then (if h2 2 317 (h2 2 319 (rSt (sg L) L.length W d j)) ≤ x then x9 else h2 2 319 (rSt (sg L) L.length W d j)) else G) < 140 := by
      intro x9 h9
      rw [first.1, first.2.2.2.1]
      have fb := first.2.1
      generalize lS (sg L) L.length W d (rSt (sg L) L.length W d j) = q0 at *
      have inn : 0 ≤ (if G = -1 then (if lC (sg L) L.length W d q0 ≤ x then x9 else q0) else G) ∧ (if G = -1 then (if lC (sg L) L.length W d q0 ≤ x then x9 else q0) else G) < L.length := by
        split
        · split <;> omega
        · omega
      exact ⟨(mCl_g c1 inn.1 inn.2).2.2.2, inn.1, by omega⟩
    -- looking for the last wide one from behind
    have backw : ∀ (m : Nat) (k x9 : Int), k = iL + m → k < rSt (sg L) L.length W d (j + 1) → (0 ≤ x9 ∧ x9 < L.length) → lW (sg L) L.length W d x9 = 0 → vrun mX13_goesUp 146 [(1, 282), (0, p), (0, r), (0, x), (0, mLn h p r), (0, j), (0, rSt (sg L) L.length W d j), (0, rSt (sg L) L.length W d (j + 1)), (0, G), (0, x9), (0, k), v11] [] h2 = some (.inl (some (0, tl L (upC L W d j x))), h2) := by
      intro m
      induction m with
      | zero =>
        intro k x9 hk hkt h9 w9
        have ek : k = iL := by omega
        subst ek
        have w1 := (c5 x9 h9.1 h9.2).1
        have t2 := tell (lS (sg L) L.length W d k) iB.2.1
        have t1 := tell x9 h9
        have b1 := iB.1
        have b2 := iB.2.1
        have wk : ¬ h2 2 315 (lS (sg L) L.length W d k) = 0 := by rw [iB.2.2.1]; omega
        rw [rX13_goesUp_146 g2.1 (by omega) (by omega) (by omega) (by omega) (by omega) (by omega) (by omega) (by omega) (by omega) (by omega) (by omega) (by omega) (by omega) (by omega) (by omega) (by omega) (fun _ _ => t1.2.1) (fun _ _ => t1.2.2), if_neg (by omega), if_pos (by omega), iB.1, if_neg (by omega)]
        rw [rX13_goesUp_146 g2.1 (by omega) (by omega) (by omega) (by omega) (fun _ => t2.2.1) (fun _ => t2.2.2) (by omega) (by omega) (by omega) (by omega) (by omega) (by omega) (by omega) (by omega) (by omega) (by omega) (fun _ _ => t2.2.1) (fun _ _ => t2.2.2), t2.1, fin]
        by_cases z : k + -1 < rSt (sg L) L.length W d j
        · rw [if_pos z]
        · rw [if_neg z, if_neg wk]
      | succ m ih =>
        intro k x9 hk hkt h9 w9
        have w1 := (c5 x9 h9.1 h9.2).1
        have t1 := tell x9 h9
        have bk := pf k (by omega) hkt
        have zk : ¬ 0 < lW (sg L) L.length W d (lS (sg L) L.length W d k) := i5 k (by omega) hkt
        rw [rX13_goesUp_146 g2.1 (by omega) (by omega) (by omega) (by omega) (by omega) (by omega) (by omega) (by omega) (by omega) (by omega) (by rw [bk.1]; omega) (by rw [bk.1]; omega) (by omega) (by omega) (by omega) (by omega) (fun _ _ => t1.2.1) (fun _ _ => t1.2.2), if_neg (by omega), if_pos (by omega), bk.1, if_pos (by omega), show k + -1 = k - 1 by omega]
        exact ih (k - 1) x9 (by omega) (by omega) h9 w9
    by_cases wl : lW (sg L) L.length W d (lS (sg L) L.length W d (rSt (sg L) L.length W d (j + 1) - 1)) = 0
    · exact backw (rSt (sg L) L.length W d (j + 1) - 1 - iL).toNat _ _ (by omega) (by omega) last.2.1 wl
    · have eL : iL = rSt (sg L) L.length W d (j + 1) - 1 := by
        refine Int.le_antisymm (by omega) (Int.not_lt.mp fun z => ?_)
        exact i5 (rSt (sg L) L.length W d (j + 1) - 1) z (by omega) (by omega)
      have t1 := tell _ last.2.1
      have wk : ¬ h2 2 315 (lS (sg L) L.length W d (rSt (sg L) L.length W d (j + 1) - 1)) = 0 := by rw [last.2.2.1]; exact wl
      rw [rX13_goesUp_146 g2.1 (by omega) (by omega) (by omega) (by omega) (by omega) (by omega) (by omega) (by omega) (by omega) (by omega) (by omega) (by omega) (by omega) (by omega) (by omega) (by omega) (fun _ _ => t1.2.1) (fun _ _ => t1.2.2), if_neg (by omega), if_neg wk, t1.1, fin, eL]
end MQ
