/-! marks at the side, and the small picture -/
noncomputable def mkR (a : vH) (lo hi : Int) : Nat → Int → Int → Int
  | 0, _, r => r
  | f + 1, l, r => mkR a lo hi f (l + 1) (r + b2i ((lo ≤ l ∧ l ≤ hi) ∧ ¬ (a 2 285 l = 0)))
noncomputable def mkE (a : vH) (p l : Int) : Int := max l (mCe a p l (a 2 301 p).toNat (6 * p) (-1))
noncomputable def mkV (a : vH) (p r : Int) : Int := if r = mRA a p (mLn a p r) then mkR a (mLn a p r) (mkE a p (mLn a p r)) (a 1504 282 0).toNat 0 0 else 0
theorem mCe_q {a : vH} {p l z : Int} : ∀ (f : Nat) (k x : Int), z ≤ mCe a p l f k x ↔ z ≤ x ∨ anyI (fun k => ¬ (a 2 304 k = 0) ∧ a 2 302 k = l ∧ z ≤ a 2 303 k) k (k + f)
  | 0, k, x => by
    show z ≤ x ↔ _
    exact ⟨Or.inl, fun w => w.resolve_right (any_nil (by omega))⟩
  | f + 1, k, x => by
    have e : mCe a p l (f + 1) k x = mCe a p l f (k + 1) (if a 2 304 k = 0 then x else (if a 2 302 k = l then max x (a 2 303 k) else x)) := rfl
    rw [e, mCe_q f (k + 1), any_step (show k < k + ((f + 1 : Nat) : Int) by omega), show k + 1 + (f : Int) = k + ((f + 1 : Nat) : Int) by omega]
    constructor
    · rintro (w | w)
      · by_cases c1 : a 2 304 k = 0
        · rw [if_pos c1] at w; exact Or.inl w
        · rw [if_neg c1] at w
          by_cases c2 : a 2 302 k = l
          · rw [if_pos c2] at w
            by_cases c3 : z ≤ x
            · exact Or.inl c3
            · exact Or.inr (Or.inl ⟨c1, c2, by omega⟩)
          · rw [if_neg c2] at w; exact Or.inl w
      · exact Or.inr (Or.inr w)
    · rintro (w | ⟨c1, c2, c3⟩ | w)
      · left
        split
        · exact w
        · split <;> omega
      · left
        rw [if_neg c1, if_pos c2]; omega
      · exact Or.inr w
theorem mCe_eq {a b : vH} {p l : Int} (y : pR a b) : ∀ (f : Nat) (k x : Int), mCe b p l f k x = mCe a p l f k x
  | 0, _, _ => rfl
  | f + 1, k, x => by
    have e : ∀ a : vH, mCe a p l (f + 1) k x = mCe a p l f (k + 1) (if a 2 304 k = 0 then x else (if a 2 302 k = l then max x (a 2 303 k) else x)) := fun _ => rfl
    rw [e, e, y 304 _ (by decide) (by decide), y 302 _ (by decide) (by decide), y 303 _ (by decide) (by decide), mCe_eq y f]
theorem mkR_eq {a b : vH} {lo hi : Int} (y : pR a b) : ∀ (f : Nat) (l r : Int), mkR b lo hi f l r = mkR a lo hi f l r
  | 0, _, _ => rfl
  | f + 1, l, r => by
    have e : ∀ a : vH, mkR a lo hi (f + 1) l r = mkR a lo hi f (l + 1) (r + b2i ((lo ≤ l ∧ l ≤ hi) ∧ ¬ (a 2 285 l = 0))) := fun _ => rfl
    rw [e, e, y 285 _ (by decide) (by decide), mkR_eq y f]
theorem mkE_eq {a b : vH} {p l : Int} (y : pR a b) : mkE b p l = mkE a p l := by
  unfold mkE
  rw [mCe_eq y, y 301 _ (by decide) (by decide)]
theorem mkV_eq {a b : vH} {p r : Int} (y : eqA a b) : mkV b p r = mkV a p r := by
  unfold mkV
  rw [mLn_eq y.1, mRA_eq y.1, mkE_eq y.1, y.2.1, mkR_eq y.1]
theorem mkR_in {a : vH} {lo hi : Int} : ∀ (f : Nat) (l r : Int), r ≤ mkR a lo hi f l r ∧ mkR a lo hi f l r ≤ r + f
  | 0, l, r => by show r ≤ r ∧ r ≤ r + (0 : Nat); omega
  | f + 1, l, r => by
    have e : mkR a lo hi (f + 1) l r = mkR a lo hi f (l + 1) (r + b2i ((lo ≤ l ∧ l ≤ hi) ∧ ¬ (a 2 285 l = 0))) := rfl
    have ih := mkR_in (a := a) (lo := lo) (hi := hi) f (l + 1) (r + b2i ((lo ≤ l ∧ l ≤ hi) ∧ ¬ (a 2 285 l = 0)))
    have b := b2i_01 (P := (lo ≤ l ∧ l ≤ hi) ∧ ¬ (a 2 285 l = 0))
    rw [e]
    omega
theorem mkR_off {a : vH} {lo hi : Int} : ∀ (f : Nat) (l r : Int), (∀ i, l ≤ i → i < l + f → ¬ (lo ≤ i ∧ i ≤ hi)) → mkR a lo hi f l r = r
  | 0, _, _, _ => rfl
  | f + 1, l, r, h => by
    have e : mkR a lo hi (f + 1) l r = mkR a lo hi f (l + 1) (r + b2i ((lo ≤ l ∧ l ≤ hi) ∧ ¬ (a 2 285 l = 0))) := rfl
    rw [e, b2i_f (fun z => h l (Int.le_refl _) (by omega) z.1), Int.add_zero]
    exact mkR_off f (l + 1) r (fun i u v => h i (by omega) (by omega))
theorem mkR_skip {a : vH} {lo hi : Int} : ∀ (f g : Nat) (l r : Int), (∀ i, l ≤ i → i < l + f → ¬ (lo ≤ i ∧ i ≤ hi)) → mkR a lo hi (f + g) l r = mkR a lo hi g (l + f) r
  | 0, g, l, r, _ => by rw [Nat.zero_add]; show _ = mkR a lo hi g (l + (0 : Nat)) r; rw [show l + ((0 : Nat) : Int) = l by omega]
  | f + 1, g, l, r, h => by
    have e : mkR a lo hi (f + g + 1) l r = mkR a lo hi (f + g) (l + 1) (r + b2i ((lo ≤ l ∧ l ≤ hi) ∧ ¬ (a 2 285 l = 0))) := rfl
    rw [show f + 1 + g = f + g + 1 by omega, e, b2i_f (fun z => h l (Int.le_refl _) (by omega) z.1), Int.add_zero, mkR_skip f g (l + 1) r (fun i u v => h i (by omega) (by omega)), show l + 1 + (f : Int) = l + ((f + 1 : Nat) : Int) by omega]
section MRK
variable {a b h : vH} {p P r : Int}
/-- the reference counts marks -/
theorem M_marksL (g : mG h) (hp : 0 ≤ p ∧ p < 4) {l : Int} (hl : 0 ≤ l ∧ l < h 1504 282 0) {v6 v7 : vv} : vrun mX13_marks 25 [(1, 282), (0, p), (0, r), (0, l), (0, 0), (0, 0), v6, v7] [] h = some (.inl (some (0, mkR h l (mkE h p l) (h 1504 282 0).toNat 0 0)), h) := by
  have gl := g.2.1
  have o := (g.2.2.2 p hp.1 hp.2).1
  have of := o.2.2.2.2
  have inn : ∀ (n x i : Int), 0 ≤ i → i < h 1504 282 0 → ∀ k, k ≤ 6 * p + h 2 301 p → ∀ is : Int, is = 0 ∨ is = 1 → 6 * p ≤ k → 0 ≤ n → n ≤ 60 → x = n + b2i ((¬ is = 0 ∨ anyI (fun k => ¬ (h 2 304 k = 0) ∧ h 2 302 k = l ∧ (¬ (i < l) ∧ ¬ (h 2 303 k < i))) k (6 * p + h 2 301 p)) ∧ ¬ (h 2 285 i = 0)) → ∃ v6 v7, vrun mX13_marks 53 [(1, 282), (0, p), (0, r), (0, l), (0, n), (0, i), (0, is), (0, k)] [] h = vrun mX13_marks 25 [(1, 282), (0, p), (0, r), (0, l), (0, x), (0, i + 1), v6, v7] [] h := by
    intro n x i i0 i1
    refine up_ind ?_ ?_
    · intro is h01 hk n0 n60 ex
      refine ⟨(0, is), (0, 6 * p + h 2 301 p), (rX13_marks_53 (by omega) (by omega) g.1 hp.1 hp.2 (by omega) (by omega) (by omega) (by omega) (fun _ => by split <;> omega) (fun _ => by split <;> omega) (by omega) (by omega) (by omega) (by omega) (by omega) (by omega)).trans ?_⟩
      rw [if_pos (by omega), ex, b2i_if, b2i_c (Q := (¬ is = 0 ∨ anyI (fun k => ¬ (h 2 304 k = 0) ∧ h 2 302 k = l ∧ (¬ (i < l) ∧ ¬ (h 2 303 k < i))) (6 * p + h 2 301 p) (6 * p + h 2 301 p)) ∧ ¬ (h 2 285 i = 0))]
      exact ⟨fun z => ⟨Or.inl z.1, z.2⟩, fun z => ⟨z.1.resolve_right (any_nil (by omega)), z.2⟩⟩
    · intro k hk ih is h01 h6 n0 n60 ex
      obtain ⟨w6, w7, e⟩ := ih (if ¬ (is = 0) ∨ ¬ (h 2 304 k = 0) ∧ h 2 302 k = l ∧ ¬ (i < l) ∧ ¬ (h 2 303 k < i) then 1 else 0) b01 (by omega) n0 n60 (by
        rw [ex]
        congr 1
        apply b2i_c
        rw [any_step hk, b2i_if, b2i_0, Classical.not_not, or_assoc])
      refine ⟨w6, w7, (rX13_marks_53 (by omega) (by omega) g.1 hp.1 hp.2 (by omega) (by omega) (by omega) (by omega) (fun _ => by split <;> omega) (fun _ => by split <;> omega) (by omega) (by omega) (by omega) (by omega) (by omega) (by omega)).trans ?_⟩
      rw [if_neg (by omega)]
      exact e
  have q : ∀ i : Int, 0 ≤ i → i < h 1504 282 0 → ((¬ (if i = l then (1 : Int) else 0) = 0 ∨ anyI (fun k => ¬ (h 2 304 k = 0) ∧ h 2 302 k = l ∧ (¬ (i < l) ∧ ¬ (h 2 303 k < i))) (6 * p) (6 * p + h 2 301 p)) ∧ ¬ (h 2 285 i = 0) ↔ (l ≤ i ∧ i ≤ mkE h p l) ∧ ¬ (h 2 285 i = 0)) := by
    intro i i0 i1
    refine and_congr_left (fun _ => ?_)
    have mq := mCe_q (a := h) (p := p) (l := l) (z := i) (h 2 301 p).toNat (6 * p) (-1)
    rw [show (((h 2 301 p).toNat : Nat) : Int) = h 2 301 p by omega] at mq
    have e : mkE h p l = max l (mCe h p l (h 2 301 p).toNat (6 * p) (-1)) := rfl
    constructor
    · rintro (w | ⟨k, k1, k2, k3, k4, k5, k6⟩)
      · have : i = l := by
          refine Classical.byContradiction fun c => w (if_neg c)
        omega
      · have := mq.mpr (Or.inr ⟨k, k1, k2, k3, k4, by omega⟩)
        omega
    · rintro ⟨w1, w2⟩
      by_cases c : i = l
      · left; rw [if_pos c]; decide
      · right
        obtain ⟨k, k1, k2, k3, k4, k5⟩ := (mq.mp (by omega)).resolve_left (by omega)
        exact ⟨k, k1, k2, k3, k4, by omega, by omega⟩
  have loop : ∀ (f : Nat) (i n : Int) (v6 v7 : vv), i + f = h 1504 282 0 → 0 ≤ i → 0 ≤ n → n ≤ i → vrun mX13_marks 25 [(1, 282), (0, p), (0, r), (0, l), (0, n), (0, i), v6, v7] [] h = some (.inl (some (0, mkR h l (mkE h p l) f i n)), h) := by
    intro f
    induction f with
    | zero =>
      intro i n v6 v7 hi h0 n0 ni
      refine (rX13_marks_25 g.1 (by omega) (by omega)).trans ?_
      rw [if_pos (by omega)]
      rfl
    | succ f ih =>
      intro i n v6 v7 hi h0 n0 ni
      have e : mkR h l (mkE h p l) (f + 1) i n = mkR h l (mkE h p l) f (i + 1) (n + b2i ((l ≤ i ∧ i ≤ mkE h p l) ∧ ¬ (h 2 285 i = 0))) := rfl
      have b := b2i_01 (P := (l ≤ i ∧ i ≤ mkE h p l) ∧ ¬ (h 2 285 i = 0))
      refine (rX13_marks_25 g.1 (by omega) (by omega)).trans ?_
      rw [if_neg (by omega)]
      obtain ⟨w6, w7, iv⟩ := inn n _ i h0 (by omega) (6 * p) (by omega) (if i = l then 1 else 0) b01 (Int.le_refl _) n0 (by omega) rfl
      rw [iv, b2i_c (q i h0 (by omega)), e]
      exact ih (i + 1) _ w6 w7 (by omega) (by omega) (by omega) (by omega)
  exact loop (h 1504 282 0).toNat 0 0 v6 v7 (by omega) (Int.le_refl _) (Int.le_refl _) (Int.le_refl _)
theorem M_marks (g : mG h) (hp : 0 ≤ p ∧ p < 4) (hr : isRw h p r) : ∃ h2, vcl mX13_marks [(1, 282), (0, p), (0, r)] h = some (.inl (some (0, mkV h p r)), h2) ∧ mF sA sK h h2 := by
  obtain ⟨l1, j1, j2, v, r7⟩ := rw_in g hp hr
  obtain ⟨h1, a1, a2⟩ := M_lineOf g hp hr (by omega)
  have g1 := mG_sc a2 g
  obtain ⟨h2, b1, b2⟩ := M_rowsAhead g1 hp (n := mLn h p r) (by omega)
  rw [mRA_eq (eqA_sc a2).1] at b1
  have f2 := mF_tr a2 b2
  have g2 := mG_sc f2 g
  have y := eqA_sc f2
  refine ⟨h2, ?_, f2⟩
  refine (rX13_marks_0 g.1).trans ((vret_v a1).trans ((rX13_marks_6 g1.1).trans ((vret_v b1).trans (rX13_marks_14.trans ?_))))
  unfold mkV
  by_cases z : r = mRA h p (mLn h p r)
  · rw [if_pos z, if_pos z, M_marksL g2 hp (l := (mLn h p r : Int)) ⟨l1.1, by rw [y.2.1]; exact l1.2.1⟩, mkE_eq y.1, y.2.1, mkR_eq y.1]
  · rw [if_neg z, if_neg z]
theorem C_markedFrom (cT : cTx h a) {l e : Int} (hl : 0 ≤ l ∧ l < a 1504 282 0) (he : l ≤ e) : vcl mX10_markedFrom [(1, 4), (0, l), (0, e)] h = some (.inl (some (0, mkR a l e (a 1504 282 0).toNat 0 0)), h) := by
  have cn := cT.2.1
  have loop : ∀ (f : Nat) (i n : Int), i + f = a 1504 282 0 → l ≤ i → 0 ≤ n → n ≤ i → vrun mX10_markedFrom 5 [(1, 4), (0, l), (0, e), (0, n), (0, i)] [] h = some (.inl (some (0, mkR a l e f i n)), h) := by
    intro f
    induction f with
    | zero =>
      intro i n hi h0 n0 ni
      refine (rX10_markedFrom_5 cT.1 (by omega) (by omega) (by omega) (by omega) (by omega)).trans ?_
      rw [if_pos (show h 1201 4 0 ≤ i by omega), ite_self]
      rfl
    | succ f ih =>
      intro i n hi h0 n0 ni
      have at1 := C_at cT (l := i) ⟨by omega, by omega⟩
      have ln := cT.2.2.2.2 i (by omega) (by omega)
      have st := rX10_markedFrom_5 (h := h) (x1 := l) (x2 := e) (x3 := n) (x4 := i) cT.1 (fun _ _ => by rw [at1]; exact ln.1.1) (by omega) (by omega) (by omega) (by omega)
      rw [at1, ln.2, if_neg (show ¬ h 1201 4 0 ≤ i by omega)] at st
      refine st.trans ?_
      by_cases z : e < i
      · rw [if_pos z, mkR_off (f + 1) i n (fun j u v => by omega)]
      · have eq : mkR a l e (f + 1) i n = mkR a l e f (i + 1) (n + b2i ((l ≤ i ∧ i ≤ e) ∧ ¬ (a 2 285 i = 0))) := rfl
        have e2 : (if a 2 285 i = 0 then n else n + 1) = n + b2i ((l ≤ i ∧ i ≤ e) ∧ ¬ (a 2 285 i = 0)) := by
          by_cases w : a 2 285 i = 0
          · rw [if_pos w, b2i_f (fun y => y.2 w), Int.add_zero]
          · rw [if_neg w, b2i_t ⟨⟨h0, by omega⟩, w⟩]
        have b := b2i_01 (P := (l ≤ i ∧ i ≤ e) ∧ ¬ (a 2 285 i = 0))
        rw [if_neg z, e2, eq]
        exact ih (i + 1) _ (by omega) (by omega) (by omega) (by omega)
  refine rX10_markedFrom_0.trans ((loop (a 1504 282 0 - l).toNat l 0 (by omega) (Int.le_refl _) (Int.le_refl _) hl.1).trans ?_)
  have sk := mkR_skip (a := a) (lo := l) (hi := e) l.toNat (a 1504 282 0 - l).toNat 0 0 (fun i u v => by omega)
  rw [show l.toNat + (a 1504 282 0 - l).toNat = (a 1504 282 0).toNat by omega, show (0 : Int) + (l.toNat : Int) = l by omega] at sk
  rw [sk]
theorem C_marksOfRow (g : iG a) (hp : 0 ≤ p ∧ p < 4) (c : cRd h a p P) (hr : isRw a p r) : vcl mX5_marksOfRow [(1, P), (0, r)] h = some (.inl (some (0, mkV a p r)), h) := by
  obtain ⟨l1, j1, j2, v, r7⟩ := rw_in g.1 hp hr
  have lr := C_lineOfRow g.1 hp c hr
  have f2 := (cRd_f g.1 c (l := mLn a p r) l1.2.1).2
  have o := (g.1.2.2.2 p hp.1 hp.2).1
  have ce := C_closedEnd (l := (mLn a p r : Int)) c.2.1.2.1 ⟨o.2.2.2.2.1, o.2.2.2.2.2.1⟩
  have s := rX5_marksOfRow_5 (h := h) (x0 := P) (x1 := r) (y0 := (mLn a p r : Int)) c.2.1.1
  rw [f2] at s
  refine (rX5_marksOfRow_0 c.2.1.1).trans ((vret_v lr).trans (s.trans ?_))
  unfold mkV
  by_cases z : r = mRA a p (mLn a p r)
  · rw [if_pos z, if_pos z]
    have mf := C_markedFrom c.1 (l := (mLn a p r : Int)) (e := mkE a p (mLn a p r)) ⟨l1.1, l1.2.1⟩ (by unfold mkE; omega)
    exact (vret_v ce).trans ((rX5_marksOfRow_31 c.1.1).trans ((vret_v mf).trans rX5_marksOfRow_37))
  · rw [if_neg z, if_neg z]
/-- clusters with a width in a row -/
noncomputable def wcL (a : vH) (p r : Int) : Int := wcF (lW (sg (mCL a p (mLn a p r))) (mCL a p (mLn a p r)).length (a 2 286 p) (a 2 287 p)) (rS a p (mLn a p r) (rwJ a p r + 1) - rS a p (mLn a p r) (rwJ a p r)).toNat (rS a p (mLn a p r) (rwJ a p r)) 0
noncomputable def mmS (a : vH) (p : Int) : Nat → Int → Int → Int
  | 0, _, n => n
  | f + 1, r, n => mmS a p f (r + 1) (n + wcL a p r)
noncomputable def mmV (a : vH) (p x : Int) : Int := mmS a p ((x + 1) * mAll a p / 8 - x * mAll a p / 8).toNat (x * mAll a p / 8) 0
theorem wcF_add {w : Int → Int} : ∀ (f : Nat) (k r : Int), wcF w f k r = r + wcF w f k 0
  | 0, _, r => by show r = r + 0; omega
  | f + 1, k, r => by
    have e : ∀ r, wcF w (f + 1) k r = wcF w f (k + 1) (if w k ≤ 0 then r else r + 1) := fun _ => rfl
    rw [e, e, wcF_add f (k + 1) (if w k ≤ 0 then r else r + 1), wcF_add f (k + 1) (if w k ≤ 0 then 0 else 0 + 1)]
    split <;> omega
theorem wcL_in (g : mG a) (hp : 0 ≤ p ∧ p < 4) (hr : isRw a p r) : 0 ≤ wcL a p r ∧ wcL a p r ≤ 131 := by
  obtain ⟨l1, j1, j2, v, r7⟩ := rw_in g hp hr
  have n131 := mN_131 g hp (l := mLn a p r) ⟨l1.1, l1.2.2⟩
  unfold mN at n131
  have ss := rS_in g hp (l := mLn a p r) (rwJ a p r)
  have q := wcF_in (w := lW (sg (mCL a p (mLn a p r))) (mCL a p (mLn a p r)).length (a 2 286 p) (a 2 287 p)) (rS a p (mLn a p r) (rwJ a p r + 1) - rS a p (mLn a p r) (rwJ a p r)).toNat (rS a p (mLn a p r) (rwJ a p r)) 0
  unfold wcL
  omega
theorem wcL_eq (y : pR a b) : wcL b p r = wcL a p r := by
  unfold wcL
  rw [mLn_eq y, rwJ_eq y, mCL_eq y, rS_eq y, rS_eq y, y 286 _ (by decide) (by decide), y 287 _ (by decide) (by decide)]
/-- the reference counts the wide clusters of a row -/
theorem M_wcR (g : iG h) (hp : 0 ≤ p ∧ p < 4) (hr : isRw h p r) {x al n : Int} {v6 v7 : vv} (hn : 0 ≤ n ∧ n ≤ 2000000) (hx : 0 ≤ x ∧ x ≤ 7) : ∃ h2 w6 w7, vret vrun mX13_minimap 73 [(1, 282), (0, p), (0, x), (0, al), (0, n), (0, r), v6, v7] [] (vcl mX13_laysRow [(1, 282), (0, p), (0, r)] h) = vrun mX13_minimap 56 [(1, 282), (0, p), (0, x), (0, al), (0, n + wcL h p r), (0, r + 1), w6, w7] [] h2 ∧ mF sA sK h h2 := by
  obtain ⟨l1, j1, j2, v, r7⟩ := rw_in g.1 hp hr
  have hr0 := hr.1
  obtain ⟨h1, R, d1, d2, d3, d4, d5⟩ := M_laysRow g.1 hp hr (by omega)
  rw [← j1] at d1 d4 d5
  obtain ⟨q1, q2, q3, q4, q5, q6, q7, q8, q9⟩ := id d3
  have r131 := q2.2
  have g1 := iG_sc d2 g
  have ss := rS_in g.1 hp (l := mLn h p r) (rwJ h p r)
  have e0 : h1 2 320 (rwJ h p r) = rS h p (mLn h p r) (rwJ h p r) := q4 (rwJ h p r) (by omega)
  have e1 : h1 2 320 ((rwJ h p r : Int) + 1) = rS h p (mLn h p r) (rwJ h p r + 1) := q4 (rwJ h p r + 1) (by omega)
  have loop : ∀ (f : Nat) (k m : Int), k + f = rS h p (mLn h p r) (rwJ h p r + 1) → 0 ≤ k → 0 ≤ m → m ≤ 2000000 + k → ∃ v6 v7, vrun mX13_minimap 87 [(1, 282), (0, p), (0, x), (0, al), (0, m), (0, r), (0, (rwJ h p r : Int)), (0, k)] [] h1 = vrun mX13_minimap 56 [(1, 282), (0, p), (0, x), (0, al), (0, wcF (lW (sg (mCL h p (mLn h p r))) (mCL h p (mLn h p r)).length (h 2 286 p) (h 2 287 p)) f k m), (0, r + 1), v6, v7] [] h1 := by
    intro f
    induction f with
    | zero =>
      intro k m hk h0 m0 m1
      refine ⟨(0, (rwJ h p r : Int)), (0, k), (rX13_minimap_87 g1.1.1 (by omega) (by omega) (by omega) (by omega) (by omega) (by omega) (by omega) (by omega) (by omega) (by omega)).trans ?_⟩
      rw [if_pos (by omega)]
      rfl
    | succ f ih =>
      intro k m hk h0 m0 m1
      have w := (q5 k h0 (by omega)).1
      obtain ⟨w6, w7, iv⟩ := ih (k + 1) (if lW (sg (mCL h p (mLn h p r))) (mCL h p (mLn h p r)).length (h 2 286 p) (h 2 287 p) k ≤ 0 then m else m + 1) (by omega) (by omega) (by split <;> omega) (by split <;> omega)
      refine ⟨w6, w7, (rX13_minimap_87 g1.1.1 (by omega) (by omega) (by omega) (by omega) (by omega) (by omega) (by omega) (by omega) (fun _ => by split <;> omega) (fun _ => by split <;> omega)).trans ?_⟩
      rw [if_neg (by omega), w]
      have ee : m + (if ¬ (lW (sg (mCL h p (mLn h p r))) (mCL h p (mLn h p r)).length (h 2 286 p) (h 2 287 p) k ≤ 0) then 1 else 0) = (if lW (sg (mCL h p (mLn h p r))) (mCL h p (mLn h p r)).length (h 2 286 p) (h 2 287 p) k ≤ 0 then m else m + 1) := by
        by_cases z : lW (sg (mCL h p (mLn h p r))) (mCL h p (mLn h p r)).length (h 2 286 p) (h 2 287 p) k ≤ 0
        · rw [if_pos z, if_neg (fun y => y z), Int.add_zero]
        · rw [if_neg z, if_pos z]
      rw [ee]
      exact iv
  obtain ⟨w6, w7, iv⟩ := loop (rS h p (mLn h p r) (rwJ h p r + 1) - rS h p (mLn h p r) (rwJ h p r)).toNat (rS h p (mLn h p r) (rwJ h p r)) n (by omega) ss.1 hn.1 (by omega)
  refine ⟨h1, w6, w7, ?_, d2⟩
  refine (vret_v d1).trans ((rX13_minimap_76 g1.1.1 (by omega) (by omega)).trans ?_)
  rw [e0, iv, wcF_add]
  rfl
theorem mm_in (g : mG a) (hp : 0 ≤ p ∧ p < 4) {x : Int} (hx : 0 ≤ x ∧ x ≤ 7) : 0 ≤ x * mAll a p ∧ (x + 1) * mAll a p = x * mAll a p + mAll a p ∧ x * mAll a p ≤ 7 * mAll a p := by
  have al := mAll_in g hp
  exact ⟨Int.mul_nonneg hx.1 al.1, by rw [Int.add_mul, Int.one_mul], Int.mul_le_mul_of_nonneg_right hx.2 al.1⟩
theorem M_minimapC (g : iG h) (hp : 0 ≤ p ∧ p < 4) {x : Int} (hx : 0 ≤ x ∧ x ≤ 7) : ∃ h2, vret vrun mX13_minimap 41 [(1, 282), (0, p), (0, x), (9, 0), (9, 0), (9, 0), (9, 0), (9, 0)] [] (vcl mX13_rowsAhead [(1, 282), (0, p), (0, h 1504 282 0)] h) = some (.inl (some (0, mmV h p x)), h2) ∧ mF sA sK h h2 := by
  obtain ⟨h1, a1, a2⟩ := M_all g.1 hp
  have al := mAll_in g.1 hp
  have mm := mm_in g.1 hp hx
  have loop : ∀ (f : Nat) (r n : Int) (h2 : vH) (v6 v7 : vv), mF sA sK h h2 → r + f = (x + 1) * mAll h p / 8 → x * mAll h p / 8 ≤ r → 0 ≤ n → n ≤ 131 * (r - x * mAll h p / 8) → ∃ h3, vrun mX13_minimap 56 [(1, 282), (0, p), (0, x), (0, mAll h p), (0, n), (0, r), v6, v7] [] h2 = some (.inl (some (0, mmS h p f r n)), h3) ∧ mF sA sK h h3 := by
    intro f
    induction f with
    | zero =>
      intro r n h2 v6 v7 hF hr h0 n0 n1
      refine ⟨h2, (rX13_minimap_56 (by omega) (by omega) (by omega) (by omega) (by omega) (iG_sc hF g).1.1).trans ?_, hF⟩
      rw [if_pos (by omega)]
      rfl
    | succ f ih =>
      intro r n h2 v6 v7 hF hr h0 n0 n1
      have g2 := iG_sc hF g
      have ri : isRw h p r := isRw_all.mpr ⟨by omega, by omega⟩
      have wi := wcL_in g.1 hp ri
      obtain ⟨h3, w6, w7, e1, e2⟩ := M_wcR g2 hp ((isRw_eq (eqA_sc hF)).mpr ri) (x := x) (al := mAll h p) (n := n) (v6 := v6) (v7 := v7) ⟨n0, by omega⟩ hx
      rw [wcL_eq (eqA_sc hF).1] at e1
      obtain ⟨h4, k1, k2⟩ := ih (r + 1) (n + wcL h p r) h3 w6 w7 (mF_tr hF e2) (by omega) (by omega) (by omega) (by omega)
      refine ⟨h4, (rX13_minimap_56 (by omega) (by omega) (by omega) (by omega) (by omega) g2.1.1).trans ?_, k2⟩
      rw [if_neg (by omega), e1]
      exact k1
  obtain ⟨h3, e1, e2⟩ := loop ((x + 1) * mAll h p / 8 - x * mAll h p / 8).toNat (x * mAll h p / 8) 0 h1 (9, 0) (9, 0) a2 (by omega) (Int.le_refl _) (Int.le_refl _) (by omega)
  exact ⟨h3, (vret_v a1).trans ((rX13_minimap_44 (by omega) (by omega) mm.1).trans e1), e2⟩
theorem C_wideR (g : iG a) (hp : 0 ≤ p ∧ p < 4) (hP : 138 ≤ P) (c : cRd h a p P) (hr : isRw a p r) : ∃ h2, vcl mX5_measured [(1, P), (0, (mLn a p r : Int))] h = some (.inl (some (1, P + 5)), h2) ∧ vcl mX3_wideCells [(1, P + 5), (0, (rwJ a p r : Int))] h2 = some (.inl (some (0, wcL a p r)), h2) ∧ qM P h h2 ∧ cRd h2 a p P ∧ shLayout h2 (P + 5) ∧ r - fX5_firstRow h2 P (mLn a p r) = (rwJ a p r : Int) := by
  obtain ⟨l1, j1, j2, v, r7⟩ := rw_in g.1 hp hr
  obtain ⟨h1, m1, m2, m3, m4⟩ := C_measured g hp c.1 c.2.1 c.2.2.2.1 (l := mLn a p r) ⟨l1.1, l1.2.1⟩
  have c1 := cRd_qM hP m2 c m3
  obtain ⟨R, q, ql, qt, qr⟩ := cRd_Q g hp c1 m4 l1.1
  have qr := qr v
  have f2 := (cRd_f g.1 c1 (l := mLn a p r) l1.2.1).2
  exact ⟨h1, m1, C_wideCells q (j := rwJ a p r) (by omega), m2, c1, q.1, by rw [f2, j1]⟩
theorem C_wideCellsP (g : iG a) (hp : 0 ≤ p ∧ p < 4) (hP : 138 ≤ P) (c : cRd h a p P) {x y : Int} (hx : 0 ≤ x ∧ x ≤ y ∧ y ≤ mAll a p) : ∃ h2, vcl mX5_wideCells [(1, P), (0, x), (0, y)] h = some (.inl (some (0, mmS a p (y - x).toNat x 0)), h2) ∧ qM P h h2 ∧ cRd h2 a p P := by
  have al := mAll_in g.1 hp
  have loop : ∀ (f : Nat) (r n : Int) (h1 : vH) (v5 : vv), qM P h h1 → cRd h1 a p P → r + f = y → x ≤ r → 0 ≤ n → n ≤ 131 * (r - x) → ∃ h2, vrun mX5_wideCells 5 [(1, P), (0, x), (0, y), (0, n), (0, r), v5] [] h1 = some (.inl (some (0, mmS a p f r n)), h2) ∧ qM P h h2 ∧ cRd h2 a p P := by
    intro f
    induction f with
    | zero =>
      intro r n h1 v5 hF c1 hr h0 n0 n1
      refine ⟨h1, (rX5_wideCells_5 c1.2.1.1).trans ?_, hF, c1⟩
      rw [if_pos (by omega)]
      rfl
    | succ f ih =>
      intro r n h1 v5 hF c1 hr h0 n0 n1
      have ri : isRw a p r := isRw_all.mpr ⟨by omega, by omega⟩
      have wi := wcL_in g.1 hp ri
      have lr := C_lineOfRow g.1 hp c1 ri
      obtain ⟨h2, m1, m2, m3, c2, sl, ej⟩ := C_wideR g hp hP c1 ri
      have j131 := (rw_in g.1 hp ri)
      have mb := mRC_in g.1 hp (l := mLn a p r) ⟨by omega, by omega⟩
      obtain ⟨h3, k1, k2⟩ := ih (r + 1) (n + wcL a p r) h2 (0, (mLn a p r : Int)) (qM_tr hF m3) c2 (by omega) (by omega) (by omega) (by omega)
      refine ⟨h3, (rX5_wideCells_5 c1.2.1.1).trans ?_, k2⟩
      rw [if_neg (by omega)]
      have s := rX5_wideCells_26 (h := h2) (x0 := P) (x1 := x) (x2 := y) (x3 := n) (x4 := r) (x5 := (mLn a p r : Int)) (y0 := P + 5) (y1 := n) c2.2.1.1 (by omega) (by omega) sl
      rw [ej] at s
      exact (vret_v lr).trans ((rX5_wideCells_17 c1.2.1.1).trans ((vret_v m1).trans (s.trans ((vret_v m2).trans ((rX5_wideCells_37 (by omega) (by omega) (by omega) (by omega)).trans k1)))))
  obtain ⟨h2, e1, e2⟩ := loop (y - x).toNat x 0 h (9, 0) qM_rf c (by omega) (Int.le_refl _) (Int.le_refl _) (by omega)
  exact ⟨h2, rX5_wideCells_0.trans e1, e2⟩
end MRK
