section MLY
variable {h : vH} {n : Nat} {s : Int → Int} {p l : Int}
theorem lvO_in {s : Int → Int} {B c w : Int} (h : 0 ≤ B) : B ≤ lvO s B c w ∧ lvO s B c w ≤ B + 2 := by
  unfold lvO
  have : (0 : Int) ≤ @ite _ (w = 1 ∧ fig (s c)) (Classical.propDecidable _) 1 0 ∧ (@ite _ (w = 1 ∧ fig (s c)) (Classical.propDecidable _) 1 0 : Int) ≤ 1 := by split <;> omega
  omega
theorem nuL_in {s G : Int → Int} {B : Int} (h : 0 ≤ B) : ∀ (L : List Int) (x j : Int), 0 ≤ nuL s G B x L j ∧ nuL s G B x L j ≤ B + 2
  | [], _, _ => ⟨Int.le_refl _, by show (0 : Int) ≤ B + 2; omega⟩
  | c :: r, x, j => by
    have a := fun w => lvO_in (s := s) (c := c) (w := w) h
    unfold nuL
    split
    · split
      · have := a (if x = nxW G (B % 2) r then x else B % 2); omega
      · exact nuL_in h r x j
    · split
      · have := a (G c); omega
      · exact nuL_in h r (G c) j
theorem lB_in {k : Nat} (hk : k < n) : 0 ≤ lB s n (lI s n k) ∧ lB s n (lI s n k) ≤ 2 * n + 3 := by
  have w0 := wy1_in (s := s) (n := n) (o := -1)
  unfold lB
  rcases lI_in (s := s) (n := n) (k := k) hk with y | y
  · rw [if_pos y]; unfold lB0; omega
  · rw [if_neg (by omega)]
    have q : (((lI s n k).toNat : Nat) : Int) = lI s n k := by omega
    have := lBs_in (s := s) (n := n) n (Nat.le_refl _) (lI s n k).toNat (by omega) (by rw [q]; exact y.2.2.1) (by rw [q]; exact y.2.2.2)
    rw [q] at this
    omega
theorem lL_in {k : Nat} (hk : k < n) : 0 ≤ lL s n k ∧ lL s n k ≤ 2 * n + 5 := by
  have b := lB_in (s := s) hk
  unfold lL sqL
  have := nuL_in (s := s) (G := sqG s (lI s n) (lI s n k) (lB s n (lI s n k) % 2) (Ch (lI s n) (lI s n k) n 0)) b.1 (Ch (lI s n) (lI s n k) n 0) (lB s n (lI s n k) % 2) k
  omega
theorem rWd_in {W st c k : Int} (hc : 0 ≤ c) : 0 ≤ rWd s n W st c k ∧ rWd s n W st c k ≤ 4 := by
  unfold rWd
  split
  · have := rPos_ge (s := s) (k - st).toNat st c hc
    have := wd_le (g := s k) (x := rPos s (k - st).toNat st c) (by omega)
    omega
  · omega
/-- the column in which a row begins -/
def cI (d : Int) (j : Nat) : Int := if j = 0 then 0 else d
/-- a row as it stands on the screen -/
def mRow (h : vH) (s : Int → Int) (n : Nat) (W d : Int) (j : Nat) : Prop := ∀ k, rSt s n W d j ≤ k → k < rSt s n W d (j + 1) → h 2 316 k = oLv s (lL s n) (lB0 s n) (rSt s n W d j) (rSt s n W d (j + 1)) k ∧ h 2 319 k = oSc s (lL s n) (lB0 s n) (rSt s n W d j) (rSt s n W d (j + 1)) k ∧ h 2 317 k = oCo s (lL s n) (rWd s n W (rSt s n W d j) (cI d j)) (lB0 s n) (rSt s n W d j) (rSt s n W d (j + 1)) (cI d j) k
theorem M_ord_all {W d : Int} {R : Nat} (sM : shModel h) (hp : 0 ≤ p ∧ p < 4) (h131 : n ≤ 131) (hs : ∀ k : Int, 0 ≤ k → k < n → h 2 311 k = s k) (hd : h 2 287 p = d) (hd2 : 0 ≤ d ∧ d ≤ 4) (hW2 : 10 ≤ W) (hR : mRs h s n W d R) (hlb : h 1548 282 0 = lB0 s n) (hl : ∀ j : Nat, j < n → h 2 316 j = lL s n j) : ∀ (f i : Nat) (h1 : vH), i + f = R → mF [316, 319, 317] [] h h1 → (∀ k, rSt s n W d i ≤ k → k < n → h1 2 316 k = h 2 316 k) → (∀ j : Nat, j < i → mRow h1 s n W d j) → ∃ h2, vrun mX13_lays 17 [(1, 282), (0, p), (0, l), (0, i)] [] h1 = some (.inl none, h2) ∧ mF [316, 319, 317] [] h h2 ∧ (∀ j : Nat, j < R → mRow h2 s n W d j) := by
  obtain ⟨r1, r2, r3, r4, r5, r6⟩ := hR
  have w0 := wy1_in (s := s) (n := n) (o := -1)
  intro f
  induction f with
  | zero =>
    intro i h1 hi hF hk hm
    have e1 : h1 1541 282 0 = (R : Int) := (hF _ _ _ (by simp) (by simp)).trans r3
    refine ⟨h1, ?_, hF, fun j hj => hm j (by omega)⟩
    rw [rX13_lays_17 (shModel_sx (mF_sx hF (by decide)) sM), if_pos (by omega)]
  | succ f ih =>
    intro i h1 hi hF hk hm
    have sM1 := shModel_sx (mF_sx hF (by decide)) sM
    have e1 : h1 1541 282 0 = (R : Int) := (hF _ _ _ (by simp) (by simp)).trans r3
    have p0 := rSt_in (s := s) (n := n) (W := W) (d := d) (by omega) hd2 hW2 i
    have p1 := rSt_in (s := s) (n := n) (W := W) (d := d) (by omega) hd2 hW2 (i + 1)
    have up := rSt_up (s := s) (n := n) hd2 hW2 i
    have en := isR_end (by omega) hd2 hW2 r1
    have ea : h1 2 320 i = rSt s n W d i := (hF _ _ _ (by simp) (by simp)).trans (r4 i (by omega))
    have et : h1 2 320 ((i : Int) + 1) = rSt s n W d (i + 1) := by
      refine (hF _ _ _ (by simp) (by simp)).trans ?_
      by_cases z : i + 1 = R
      · rw [z, en, ← r5, show ((i : Int) + 1) = (R : Int) by omega]
      · exact r4 (i + 1) (by omega)
    have c0 : 0 ≤ cI d i ∧ cI d i ≤ 4 := by unfold cI; split <;> omega
    obtain ⟨h2, a1, a2, a3, a4⟩ := M_orders (s := s) (lv := lL s n) (wi := rWd s n W (rSt s n W d i) (cI d i)) (base := lB0 s n) (r := i) sM1 hp ⟨by omega, by omega⟩ ea et p0.1 up (by omega) (fun j u v => (hF _ _ _ (by simp) (by simp)).trans (hs j (by omega) (by omega))) ((hF _ _ _ (by simp) (by simp)).trans hlb) (by unfold lB0; omega) (fun j u v => by
      have q : ((j.toNat : Nat) : Int) = j := by omega
      have b := lL_in (s := s) (n := n) (k := j.toNat) (by omega)
      rw [q] at b
      refine ⟨?_, b.1, by omega⟩
      rw [hk j u (by omega)]
      have := hl j.toNat (by omega)
      rw [q] at this
      exact this) (fun j u v => ⟨(hF _ _ _ (by simp) (by simp)).trans (r6 i (by omega) j u v).1, rWd_in c0.1⟩) (by rw [hF _ _ _ (by simp) (by simp), hd]; exact hd2)
    have ed : (if (i : Int) = 0 then (0 : Int) else h1 2 287 p) = cI d i := by
      rw [hF _ _ _ (by simp) (by simp), hd]
      unfold cI
      by_cases z : i = 0
      · rw [if_pos (by omega), if_pos z]
      · rw [if_neg (by omega), if_neg z]
    rw [ed] at a3
    obtain ⟨h3, q1, q2, q3⟩ := ih (i + 1) h2 (by omega) (mF_tr hF a2) (fun k u v => by
      rw [(a4 k (Or.inr u)).1]
      exact hk k (by omega) v) (fun j hj k u v => by
      by_cases z : j = i
      · subst z; exact a3 k u v
      · have mo := rSt_mono (s := s) (n := n) hd2 hW2 (show j + 1 ≤ i by omega)
        obtain ⟨b1, b2, b3⟩ := a4 k (Or.inl (by omega))
        rw [b1, b2, b3]
        exact hm j (by omega) k u v)
    refine ⟨h3, ?_, q2, q3⟩
    rw [rX13_lays_17 sM1, if_neg (by omega)]
    refine (vret_n a1).trans ((rX13_lays_31 (by omega) (by omega)).trans ?_)
    exact q1
/-- a line of a pane that is laid -/
def mLaid (h : vH) (L : List Clu) (W d : Int) (R : Nat) : Prop := mCl h L ∧ mRs h (fun k => (L.getD k.toNat (0, 0, 0, 0)).1) L.length W d R ∧ h 1548 282 0 = lB0 (fun k => (L.getD k.toNat (0, 0, 0, 0)).1) L.length ∧ ∀ j : Nat, j < R → mRow h (fun k => (L.getD k.toNat (0, 0, 0, 0)).1) L.length W d j
/-- THE REFERENCE LAYS A LINE -/
theorem M_lays (g : mG h) (hp : 0 ≤ p ∧ p < 4) (hl : 0 ≤ l ∧ l < 60) : ∃ h2 R, vcl mX13_lays [(1, 282), (0, p), (0, l)] h = some (.inl none, h2) ∧ mF sA sK h h2 ∧ mN h p l ≤ 131 ∧ mLaid h2 (mCL h p l) (h 2 286 p) (h 2 287 p) R := by
  obtain ⟨h1, h2, R, a1, a2, f1, f2, c1, n131, r1⟩ := M_find_rows g hp hl
  obtain ⟨o, w, d⟩ := g.2.2.2 p hp.1 hp.2
  have g1 := (mG_sc f1 g).1
  have g2 := (mG_sc f2 g).1
  have s2 := mCl_s c1
  obtain ⟨h3, b1, b2, b3, b4⟩ := M_findsLevels (s := mS h p l) (n := mN h p l) g2 c1.1 n131 s2
  have f3 : mF sA sK h h3 := mF_tr f2 (mF_le b2 (by decide) (by decide))
  have g3 := (mG_sc f3 g).1
  have r3 : mRs h3 (mS h p l) (mN h p l) (h 2 286 p) (h 2 287 p) R := by
    obtain ⟨q1, q2, q3, q4, q5, q6⟩ := r1
    exact ⟨q1, q2, (b2 _ _ _ (by simp) (by simp)).trans q3, fun j hj => (b2 _ _ _ (by simp) (by simp)).trans (q4 j hj), (b2 _ _ _ (by simp) (by simp)).trans q5, fun j hj k u v => ⟨(b2 _ _ _ (by simp) (by simp)).trans (q6 j hj k u v).1, (b2 _ _ _ (by simp) (by simp)).trans (q6 j hj k u v).2⟩⟩
  obtain ⟨h4, d1, d2, d3⟩ := M_ord_all (p := p) (l := l) (W := h 2 286 p) (d := h 2 287 p) g3 hp n131 (fun k u v => (b2 _ _ _ (by simp) (by simp)).trans (s2 k u v)) (sF_pR f3 _ _ (by decide) (by decide)) d w.1 r3 b4 b3 R 0 h3 (by omega) mF_rf (fun _ _ _ => rfl) (fun j hj => absurd hj (Nat.not_lt_zero j))
  refine ⟨h4, R, ?_, mF_tr f3 (mF_le d2 (by decide) (by decide)), n131, ⟨?_, ?_, ?_, d3⟩⟩
  · refine (rX13_lays_0 g.1).trans ((vret_n a1).trans ?_)
    refine (rX13_lays_6 g1).trans ((vret_n a2).trans ?_)
    refine (rX13_lays_11 g2).trans ((vret_n b1).trans ?_)
    refine rX13_lays_15.trans ?_
    exact d1
  · refine ⟨(d2 _ _ _ (by simp) (by simp)).trans ((b2 _ _ _ (by simp) (by simp)).trans c1.1), fun i c e => ?_⟩
    obtain ⟨q1, q2, q3, q4⟩ := c1.2 i c e
    exact ⟨(d2 _ _ _ (by simp) (by simp)).trans ((b2 _ _ _ (by simp) (by simp)).trans q1), (d2 _ _ _ (by simp) (by simp)).trans ((b2 _ _ _ (by simp) (by simp)).trans q2), (d2 _ _ _ (by simp) (by simp)).trans ((b2 _ _ _ (by simp) (by simp)).trans q3), (d2 _ _ _ (by simp) (by simp)).trans ((b2 _ _ _ (by simp) (by simp)).trans q4)⟩
  · obtain ⟨q1, q2, q3, q4, q5, q6⟩ := r3
    exact ⟨q1, q2, (d2 _ _ _ (by simp) (by simp)).trans q3, fun j hj => (d2 _ _ _ (by simp) (by simp)).trans (q4 j hj), (d2 _ _ _ (by simp) (by simp)).trans q5, fun j hj k u v => ⟨(d2 _ _ _ (by simp) (by simp)).trans (q6 j hj k u v).1, (d2 _ _ _ (by simp) (by simp)).trans (q6 j hj k u v).2⟩⟩
  · exact (d2 _ _ _ (by simp) (by simp)).trans b4
end MLY
