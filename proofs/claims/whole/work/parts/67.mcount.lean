abbrev sA : List Int := [311, 312, 313, 314, 315, 316, 317, 318, 319, 320, 321, 322, 323, 324, 325]
abbrev sK : List Nat := [1540, 1541, 1542, 1548]
/-- what holds of the reference between calls, as far as laying out asks it -/
def mG (h : vH) : Prop := shModel h ∧ (1 ≤ h 1504 282 0 ∧ h 1504 282 0 ≤ 60) ∧ (∀ l, 0 ≤ l → l < 60 → 0 ≤ h 2 284 l ∧ h 2 284 l ≤ 80) ∧ ∀ p, 0 ≤ p → p < 4 → mOKp h p ∧ (10 ≤ h 2 286 p ∧ h 2 286 p ≤ 40) ∧ (0 ≤ h 2 287 p ∧ h 2 287 p ≤ 4)
theorem sF_pR {h h1 : vH} (x : mF sA sK h h1) : pR h h1 := mF_pR x (by decide) (by decide)
theorem mG_sc {h h1 : vH} (x : mF sA sK h h1) (g : mG h) : mG h1 := by
  obtain ⟨g1, g2, g3, g4⟩ := g
  have y := sF_pR x
  have e : h1 1504 282 0 = h 1504 282 0 := x _ _ _ (by simp) (by simp)
  refine ⟨shModel_sx (mF_sx x (by decide)) g1, by rw [e]; exact g2, fun l a b => ?_, fun p a b => ?_⟩
  · rw [y _ _ (by decide) (by decide)]; exact g3 l a b
  · rw [y _ _ (by decide) (by decide), y _ _ (by decide) (by decide)]
    exact ⟨mOKp_eq y (g4 p a b).1, (g4 p a b).2⟩
noncomputable def rC (s : Int → Int) (n W d : Int) : Nat := @dite _ (∃ R, isR s n W d R) (Classical.propDecidable _) (fun e => Classical.choose e) (fun _ => 0)
theorem rC_eq {s : Int → Int} {n W d : Int} {R : Nat} (r : isR s n W d R) : rC s n W d = R := by
  have e : ∃ R, isR s n W d R := ⟨R, r⟩
  unfold rC
  rw [dif_pos e]
  exact isR_un (Classical.choose_spec e) r
/-- the signs of a line's clusters, and how many there are -/
noncomputable def mS (h : vH) (p l : Int) : Int → Int := fun k => ((mCL h p l).getD k.toNat (0, 0, 0, 0)).1
noncomputable def mN (h : vH) (p l : Int) : Nat := (mCL h p l).length
noncomputable def mRC (h : vH) (p l : Int) : Int := @ite _ (mInv h p l) (Classical.propDecidable _) 0 (rC (mS h p l) (mN h p l) (h 2 286 p) (h 2 287 p))
noncomputable def mRA (h : vH) (p : Int) : Nat → Int
  | 0 => 0
  | l + 1 => mRA h p l + mRC h p l
theorem mS_eq {h h1 : vH} {p l : Int} (x : pR h h1) : mS h1 p l = mS h p l := by unfold mS; rw [mCL_eq x]
theorem mN_eq {h h1 : vH} {p l : Int} (x : pR h h1) : mN h1 p l = mN h p l := by unfold mN; rw [mCL_eq x]
theorem mRC_eq {h h1 : vH} {p l : Int} (x : pR h h1) : mRC h1 p l = mRC h p l := by
  unfold mRC
  rw [mInv_eq x, mS_eq x, mN_eq x, x _ _ (by decide) (by decide), x _ _ (by decide) (by decide)]
theorem mRA_eq {h h1 : vH} {p : Int} (x : pR h h1) : ∀ l : Nat, mRA h1 p l = mRA h p l
  | 0 => rfl
  | l + 1 => by
    unfold mRA
    rw [mRA_eq x l, mRC_eq x]
theorem mCl_s {h1 h : vH} {p l : Int} (c : mCl h1 (mCL h p l)) : ∀ k : Int, 0 ≤ k → k < mN h p l → h1 2 311 k = mS h p l k := by
  intro k a b
  unfold mN at b
  have hk : k.toNat < (mCL h p l).length := by omega
  have := (c.2 k.toNat _ (List.getElem?_eq_getElem hk)).1
  rw [show ((k.toNat : Nat) : Int) = k by omega] at this
  rw [this]
  unfold mS
  rw [List.getD_eq_getElem?_getD, List.getElem?_eq_getElem hk]
  rfl
section MC
variable {h : vH} {p l : Int}
/-- the clusters and the rows of a line -/
theorem M_find_rows (g : mG h) (hp : 0 ≤ p ∧ p < 4) (hl : 0 ≤ l ∧ l < 60) : ∃ h1 h2 R, vcl mX13_findsClusters [(1, 282), (0, p), (0, l)] h = some (.inl none, h1) ∧ vcl mX13_laysRows [(1, 282), (0, p)] h1 = some (.inl none, h2) ∧ mF sA sK h h1 ∧ mF sA sK h h2 ∧ mCl h2 (mCL h p l) ∧ mN h p l ≤ 131 ∧ mRs h2 (mS h p l) (mN h p l) (h 2 286 p) (h 2 287 p) R := by
  obtain ⟨g1, g2, g3, g4⟩ := g
  obtain ⟨o, w, d⟩ := g4 p hp.1 hp.2
  obtain ⟨h1, a1, a2, a3, a4⟩ := M_finds (p := p) (l := l) g1 hp hl o (g3 l hl.1 hl.2)
  have x := mF_pR a3 (by decide) (by decide)
  have sM1 := shModel_sx (mF_sx a3 (by decide)) g1
  obtain ⟨h2, R, b1, b2, b3⟩ := M_laysRows (p := p) (s := mS h p l) (n := mN h p l) sM1 hp a2.1 a4 (mCl_s a2) (x _ _ (by decide) (by decide)) w (x _ _ (by decide) (by decide)) d
  have f1 : mF sA sK h h1 := mF_le a3 (by decide) (by decide)
  refine ⟨h1, h2, R, a1, b1, f1, mF_tr f1 (mF_le b2 (by decide) (by decide)), ⟨(b2 _ _ _ (by simp) (by simp)).trans a2.1, fun i c e => ?_⟩, a4, b3⟩
  obtain ⟨q1, q2, q3, q4⟩ := a2.2 i c e
  exact ⟨(b2 _ _ _ (by simp) (by simp)).trans q1, (b2 _ _ _ (by simp) (by simp)).trans q2, (b2 _ _ _ (by simp) (by simp)).trans q3, (b2 _ _ _ (by simp) (by simp)).trans q4⟩
theorem mRC_in (g : mG h) (hp : 0 ≤ p ∧ p < 4) (hl : 0 ≤ l ∧ l < 60) : 0 ≤ mRC h p l ∧ mRC h p l ≤ 131 ∧ (¬ mInv h p l → 1 ≤ mRC h p l) := by
  obtain ⟨h1, h2, R, -, -, -, -, -, -, r⟩ := M_find_rows g hp hl
  unfold mRC
  by_cases c : mInv h p l
  · rw [if_pos c]; exact ⟨by decide, by decide, fun z => absurd c z⟩
  · rw [if_neg c, rC_eq r.1]
    have := r.1.1
    have := r.2.1
    omega
theorem M_invis (g : mG h) (hp : 0 ≤ p ∧ p < 4) : vcl mX13_isInvisible [(1, 282), (0, p), (0, l)] h = some (.inl (some (0, b2i (mInv h p l))), h) := by
  have o := (g.2.2.2 p hp.1 hp.2).1
  exact M_isInvisible g.1 hp ⟨o.2.2.2.2.1, o.2.2.2.2.2.1⟩
theorem M_rowsIn (g : mG h) (hp : 0 ≤ p ∧ p < 4) (hl : 0 ≤ l ∧ l < 60) : ∃ h2, vcl mX13_rowsIn [(1, 282), (0, p), (0, l)] h = some (.inl (some (0, mRC h p l)), h2) ∧ mF sA sK h h2 := by
  obtain ⟨h1, h2, R, a1, a2, f1, f2, -, -, r⟩ := M_find_rows g hp hl
  have g1 := (mG_sc f1 g).1
  have g2 := (mG_sc f2 g).1
  by_cases c : mInv h p l
  · refine ⟨h, ?_, mF_rf⟩
    refine (rX13_rowsIn_0 g.1).trans ((vret_v (M_invis g hp)).trans ?_)
    refine (rX13_rowsIn_6 g.1).trans ?_
    rw [if_neg (by rw [b2i_t c]; decide)]
    unfold mRC
    rw [if_pos c]
  · refine ⟨h2, ?_, f2⟩
    refine (rX13_rowsIn_0 g.1).trans ((vret_v (M_invis g hp)).trans ?_)
    refine (rX13_rowsIn_6 g.1).trans ?_
    rw [if_pos (b2i_f c)]
    refine (vret_n a1).trans ((rX13_rowsIn_17 g1).trans ((vret_n a2).trans ((rX13_rowsIn_22 g2).trans ?_)))
    unfold mRC
    rw [if_neg c, rC_eq r.1, r.2.2.1]
theorem mRA_in (g : mG h) (hp : 0 ≤ p ∧ p < 4) : ∀ l : Nat, l ≤ 60 → 0 ≤ mRA h p l ∧ mRA h p l ≤ 131 * l
  | 0, _ => ⟨Int.le_refl _, Int.le_refl _⟩
  | l + 1, hl => by
    have a := mRA_in g hp l (by omega)
    have b := mRC_in g hp (l := l) ⟨by omega, by omega⟩
    unfold mRA
    omega
theorem M_rowsAhead (g : mG h) (hp : 0 ≤ p ∧ p < 4) {n : Nat} (hn : n ≤ 60) : ∃ h2, vcl mX13_rowsAhead [(1, 282), (0, p), (0, n)] h = some (.inl (some (0, mRA h p n)), h2) ∧ mF sA sK h h2 := by
  have loop : ∀ (f i : Nat) (h1 : vH), i + f = n → mF sA sK h h1 → ∃ h2, vrun mX13_rowsAhead 5 [(1, 282), (0, p), (0, n), (0, mRA h p i), (0, i)] [] h1 = some (.inl (some (0, mRA h p n)), h2) ∧ mF sA sK h h2 := by
    intro f
    induction f with
    | zero =>
      intro i h1 hi hF
      refine ⟨h1, ?_, hF⟩
      rw [rX13_rowsAhead_5 (mG_sc hF g).1, if_pos (by omega), show i = n by omega]
    | succ f ih =>
      intro i h1 hi hF
      have b := mRC_in g hp (l := i) ⟨by omega, by omega⟩
      have a := mRA_in g hp i (by omega)
      obtain ⟨h2, c1, c2⟩ := M_rowsIn (mG_sc hF g) hp (l := i) ⟨by omega, by omega⟩
      rw [mRC_eq (sF_pR hF)] at c1
      obtain ⟨h3, d1, d2⟩ := ih (i + 1) h2 (by omega) (mF_tr hF c2)
      refine ⟨h3, ?_, d2⟩
      rw [rX13_rowsAhead_5 (mG_sc hF g).1, if_neg (by omega)]
      refine (vret_v c1).trans ((rX13_rowsAhead_19 (by omega) (by omega) (by omega) (by omega)).trans ?_)
      exact d1
  obtain ⟨h2, a, b⟩ := loop n 0 h (by omega) mF_rf
  exact ⟨h2, rX13_rowsAhead_0.trans a, b⟩
/-- the line of a row -/
noncomputable def mLF (h : vH) (p : Int) : Nat → Nat → Int → Nat
  | 0, l, _ => l
  | f + 1, l, r => if r < mRC h p l then l else mLF h p f (l + 1) (r - mRC h p l)
noncomputable def mLn (h : vH) (p r : Int) : Nat := mLF h p 60 0 r
theorem mLF_eq {h h1 : vH} {p : Int} (x : pR h h1) : ∀ (f l : Nat) (r : Int), mLF h1 p f l r = mLF h p f l r
  | 0, _, _ => rfl
  | f + 1, l, r => by
    unfold mLF
    rw [mRC_eq x, mLF_eq x f]
theorem mLn_eq {h h1 : vH} {p r : Int} (x : pR h h1) : mLn h1 p r = mLn h p r := mLF_eq x _ _ _
theorem mLF_in {h : vH} {p : Int} : ∀ (f l : Nat) (r : Int) (n : Nat), l ≤ n → n ≤ l + f → 0 ≤ r → r < mRA h p n - mRA h p l → l ≤ mLF h p f l r ∧ mLF h p f l r < n ∧ mRA h p (mLF h p f l r) ≤ mRA h p l + r ∧ mRA h p l + r < mRA h p (mLF h p f l r + 1)
  | 0, l, r, n, hl, hf, h0, hr => by
    have e : l = n := by omega
    subst e
    omega
  | f + 1, l, r, n, hl, hf, h0, hr => by
    have ne : l ≠ n := fun z => by subst z; omega
    unfold mLF
    by_cases c : r < mRC h p l
    · rw [if_pos c]
      refine ⟨Nat.le_refl _, by omega, by omega, ?_⟩
      show _ < mRA h p l + mRC h p l
      omega
    · rw [if_neg c]
      have e : mRA h p (l + 1) = mRA h p l + mRC h p l := rfl
      have := mLF_in (h := h) (p := p) f (l + 1) (r - mRC h p l) n (by omega) (by omega) (by omega) (by omega)
      omega
/-- a row of the pane -/
def isRw (h : vH) (p r : Int) : Prop := 0 ≤ r ∧ r < mRA h p (h 1504 282 0).toNat
theorem mLn_in (g : mG h) {r : Int} (hr : isRw h p r) : (mLn h p r : Int) < h 1504 282 0 ∧ mRA h p (mLn h p r) ≤ r ∧ r < mRA h p (mLn h p r) + mRC h p (mLn h p r) := by
  have e : mRA h p 0 = 0 := rfl
  have a := mLF_in (h := h) (p := p) 60 0 r (h 1504 282 0).toNat (by omega) (by have := g.2.1; omega) hr.1 (by have := hr.2; omega)
  have e2 : mRA h p (mLn h p r + 1) = mRA h p (mLn h p r) + mRC h p (mLn h p r) := rfl
  unfold mLn at e2 ⊢
  have := g.2.1
  omega
theorem M_lineOf (g : mG h) (hp : 0 ≤ p ∧ p < 4) {r : Int} (hr : isRw h p r) (r31 : r < 2147483648) : ∃ h2, vcl mX13_lineOf [(1, 282), (0, p), (0, r)] h = some (.inl (some (0, (mLn h p r : Int))), h2) ∧ mF sA sK h h2 := by
  have e0 : mRA h p 0 = 0 := rfl
  have gl := g.2.1
  have loop : ∀ (f l : Nat) (q : Int) (h1 : vH), l < (h 1504 282 0).toNat → (h 1504 282 0).toNat ≤ l + f → 0 ≤ q → q < mRA h p (h 1504 282 0).toNat - mRA h p l → q < 2147483648 → mF sA sK h h1 → ∃ h2, vrun mX13_lineOf 13 [(1, 282), (0, p), (0, r), (0, q), (0, l), (0, mRC h p l)] [] h1 = some (.inl (some (0, (mLF h p f l q : Int))), h2) ∧ mF sA sK h h2 := by
    intro f
    induction f with
    | zero => intro l q h1 h2 h3; omega
    | succ f ih =>
      intro l q h1 hl hf h0 hq q31 hF
      have b := mRC_in g hp (l := l) ⟨by omega, by omega⟩
      have e : mRA h p (l + 1) = mRA h p l + mRC h p l := rfl
      have hd : mLF h p (f + 1) l q = if q < mRC h p l then l else mLF h p f (l + 1) (q - mRC h p l) := rfl
      by_cases c : q < mRC h p l
      · refine ⟨h1, ?_, hF⟩
        rw [hd, if_pos c, rX13_lineOf_13, if_pos c]
        all_goals (first | (intros; omega) | exact (mG_sc hF g).1)
      · have l2 : l + 1 < (h 1504 282 0).toNat := by
          refine Nat.lt_of_not_le fun z => ?_
          have : l + 1 = (h 1504 282 0).toNat := by omega
          rw [← this] at hq
          omega
        obtain ⟨h2, c1, c2⟩ := M_rowsIn (mG_sc hF g) hp (l := (l : Int) + 1) ⟨by omega, by omega⟩
        rw [mRC_eq (sF_pR hF)] at c1
        obtain ⟨h3, d1, d2⟩ := ih (l + 1) (q - mRC h p l) h2 l2 (by omega) (by omega) (by omega) (by omega) (mF_tr hF c2)
        refine ⟨h3, ?_, d2⟩
        rw [hd, if_neg c, rX13_lineOf_13, if_neg c]
        · refine (vret_v c1).trans (rX13_lineOf_34.trans ?_)
          exact d1
        all_goals (first | (intros; omega) | exact (mG_sc hF g).1)
  obtain ⟨h1, a1, a2⟩ := M_rowsIn g hp (l := 0) ⟨by omega, by omega⟩
  obtain ⟨h2, b1, b2⟩ := loop 60 0 r h1 (by omega) (by omega) hr.1 (by have := hr.2; omega) r31 a2
  refine ⟨h2, ?_, b2⟩
  refine (rX13_lineOf_0 g.1).trans ((vret_v a1).trans (rX13_lineOf_11.trans ?_))
  exact b1
noncomputable def mAll (h : vH) (p : Int) : Int := mRA h p (h 1504 282 0).toNat
theorem mAll_in (g : mG h) (hp : 0 ≤ p ∧ p < 4) : 0 ≤ mAll h p ∧ mAll h p ≤ 7860 := by
  have gl := g.2.1
  have := mRA_in g hp (h 1504 282 0).toNat (by omega)
  unfold mAll
  omega
theorem M_all (g : mG h) (hp : 0 ≤ p ∧ p < 4) : ∃ h2, vcl mX13_rowsAhead [(1, 282), (0, p), (0, h 1504 282 0)] h = some (.inl (some (0, mAll h p)), h2) ∧ mF sA sK h h2 := by
  have gl := g.2.1
  have := M_rowsAhead g hp (n := (h 1504 282 0).toNat) (by omega)
  rw [show (((h 1504 282 0).toNat : Nat) : Int) = h 1504 282 0 by omega] at this
  exact this
theorem M_isRow (g : mG h) {r : Int} : ∃ h2, vcl mX13_isRow [(1, 282), (0, p), (0, r)] h = some (.inl (some (0, b2i ((0 ≤ p ∧ p < 4) ∧ isRw h p r))), h2) ∧ mF sA sK h h2 := by
  by_cases hp : 0 ≤ p ∧ p < 4
  · obtain ⟨h2, a1, a2⟩ := M_all g hp
    have al := mAll_in g hp
    refine ⟨h2, ?_, a2⟩
    refine (rX13_isRow_0 g.1).trans ?_
    rw [if_pos (by omega)]
    refine (vret_v a1).trans ((rX13_isRow_18 (by omega) (by omega)).trans ?_)
    rw [b2i_if]
    congr 5
    apply b2i_c
    unfold isRw
    have e : mAll h p = mRA h p (h 1504 282 0).toNat := rfl
    omega
  · refine ⟨h, ?_, mF_rf⟩
    refine (rX13_isRow_0 g.1).trans ?_
    rw [if_neg (by omega), b2i_f (fun z => hp z.1)]
end MC
