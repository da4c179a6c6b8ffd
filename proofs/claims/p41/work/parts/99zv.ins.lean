/-! a sign is put in: all panes, and what holds behind it -/
/-- all that an edit may change -/
def eF (h h2 : vH) : Prop := ∀ (k : Nat) (r i : Int), (r ≤ 3 ∨ (126 ≤ r ∧ r ≤ 137) ∨ (282 ≤ r ∧ r ≤ 281) ∨ (k = 101 ∧ 138 ≤ r) ∨ ((k = 0 ∨ k = 1) ∧ 282 ≤ r)) → h2 k r i = h k r i
/-- a pane has forgotten a line -/
def fgd (h h1 : vH) (l p : Int) : Prop := h1 714 (138 + 36 * p) 0 = 0 ∧ h1 715 (138 + 36 * p) 0 = -1 ∧ ∀ i, h1 2 (138 + 36 * p + 26) i = if i = l then -1 else h 2 (138 + 36 * p + 26) i
/-- what holds of all layers, also of those that aren't used, after n calls -/
def iV (n : Int) (a : vH) : Prop := ∀ k, 0 ≤ k → k < 24 → (0 ≤ a 2 294 k ∧ a 2 294 k < a 1504 282 0) ∧ (0 ≤ a 2 295 k ∧ a 2 295 k ≤ a 2 284 (a 2 294 k)) ∧ (-(100 * n) ≤ a 2 296 k ∧ a 2 296 k ≤ a 2 284 (a 2 294 k)) ∧ (0 ≤ a 2 298 k ∧ a 2 298 k < a 1504 282 0) ∧ (0 ≤ a 2 299 k ∧ a 2 299 k ≤ a 2 284 (a 2 298 k)) ∧ (0 ≤ a 2 302 k ∧ a 2 302 k < a 1504 282 0) ∧ (0 ≤ a 2 303 k ∧ a 2 303 k < a 1504 282 0)
section INS
variable {h h2 a b : vH} {p q P Q X l x s f t j st r l0 x0 n : Int}
theorem eF_tr {h3 : vH} (x : eF h h2) (y : eF h2 h3) : eF h h3 := fun k r i e => (y k r i e).trans (x k r i e)
theorem fgF_eF (hp : 0 ≤ p ∧ p < 4) (x : fgF p h h2) : eF h h2 := fun k r i e => x k r i (by omega)
theorem tF_eF (x : tF h h2) : eF h h2 := fun k r i e => x k r i (by omega)
theorem eF_kR (x : eF h h2) : kR h h2 ∧ h2 4 0 0 = h 4 0 0 ∧ h2 5 0 0 = h 5 0 0 := ⟨fun k r i u => x k r i (by omega), x _ _ _ (by omega), x _ _ _ (by omega)⟩
theorem iG_n6 (g : iG a) : cn6 a := fun q u v => by
  obtain ⟨o1, o2, o3, o4, o5, o6, -⟩ := (g.1.2.2.2 q u v).1
  exact ⟨⟨o1, o2⟩, ⟨o3, o4⟩, o5, o6⟩
theorem iV_bd (g : iG a) (V : iV n a) (hn : 0 ≤ n ∧ n ≤ 9000) : bdP a := by
  have g1 := g.1.2.1
  refine ⟨fun r i hr u v => ?_, fun r i hr u v => ?_⟩
  · obtain ⟨v1, v2, v3, v4, v5, v6, v7⟩ := V i u v
    have l1 := g.1.2.2.1 (a 2 294 i) v1.1 (by omega)
    have l2 := g.1.2.2.1 (a 2 298 i) v4.1 (by omega)
    unfold rgL rgS rgV rgF at hr
    rcases (show r = 294 ∨ r = 295 ∨ r = 296 ∨ r = 298 ∨ r = 299 ∨ r = 302 ∨ r = 303 by omega) with e | e | e | e | e | e | e <;> subst e <;> omega
  · obtain ⟨-, -, -, v4, v5, -⟩ := g.2 i u v
    have l1 := g.1.2.2.1 (a 2 305 i) v4.1 (by omega)
    have l2 := g.1.2.2.1 (a 2 308 i) v5.1 (by omega)
    unfold rgC at hr
    rcases hr with e | e | e | e <;> subst e <;> omega
theorem TT_bQ {g : vH → Int → Int → Int} (bd : bdP a) (hp : 0 ≤ p ∧ p < 4) : bdQ (TT g a p) p := by
  refine ⟨fun r i hr u v => ?_, fun r hr => ?_⟩
  · rw [TT_L hr, if_neg (by omega)]
    exact bd.1 r i hr (by omega) (by omega)
  · rw [TT_C hr, if_neg (by omega)]
    exact bd.2 r p hr hp.1 hp.2
theorem TT_n6 {g : vH → Int → Int → Int} (n6 : cn6 a) : cn6 (TT g a q) := cn6_of (fun q u v => ⟨TT_o (by unfold rgL rgS rgV rgF rgC; omega), TT_o (by unfold rgL rgS rgV rgF rgC; omega), TT_o (by unfold rgL rgS rgV rgF rgC; omega)⟩) n6
theorem tI_bd (bd : bdP a) : bdP (tI a l x s) := by
  refine ⟨fun r i hr u v => ?_, fun r i hr u v => ?_⟩
  · rw [tI_o (fun w => by unfold rgL rgS rgV rgF at hr; omega)]
    exact bd.1 r i hr u v
  · rw [tI_o (fun w => by unfold rgC at hr; omega)]
    exact bd.2 r i hr u v
theorem C_putIn (c : cW h a) (n6 : cn6 a) (bd : bdP a) (hl : 0 ≤ l ∧ l < a 1504 282 0) (hx : 0 ≤ x ∧ x ≤ a 2 284 l) (h80 : a 2 284 l < 80) (le : ∀ i, 0 ≤ i → i < 60 → a 2 284 i ≤ 80) : ∃ h2, vcl mX12_putIn [(1, 3), (0, l), (0, x), (0, s)] h = some (.inl none, h2) ∧ cW h2 (TT (gCm l x) (tI a l x s) 4) ∧ eF h h2 ∧ (∀ i, h2 2 5 i = h 2 5 i) ∧ ∀ p, 0 ≤ p → p < 4 → fgd h h2 l p := by
  have l60 : l < 60 := by have := c.2.1.2.1.2; omega
  have rl := c.2.1.2.2.1 l hl.1 l60
  have ln := c.2.1.2.2.2.2 l hl.1 hl.2
  have n6' : cn6 (tI a l x s) := cn6_of (fun q _ _ => ⟨tI_o (by decide), tI_o (by decide), tI_o (by decide)⟩) n6
  have bd' : bdP (tI a l x s) := tI_bd bd
  have F0 := lnI_tF (h := h) (X := h 2 5 l) (x := x) (s := s) (n := a 2 284 l) rl.2
  have W0 : cW (lnI h (h 2 5 l) x s (a 2 284 l)) (tI a l x s) := cW_tx F0 lnI_sx tI_eqTx c (cTx_I c.2.1 hl hx h80 le)
  have loop : ∀ (f : Nat) (q : Int) (h1 : vH) (v7 : vv), q + f = 4 → 0 ≤ q → cW h1 (TT (gCm l x) (tI a l x s) q) → eF h h1 → (∀ i, h1 2 5 i = h 2 5 i) → (∀ p, 0 ≤ p → p < q → fgd h h1 l p) → (∀ p, q ≤ p → p < 4 → ∀ i, h1 2 (138 + 36 * p + 26) i = h 2 (138 + 36 * p + 26) i) → ∃ h2, vrun mX12_putIn 27 [(1, 3), (0, l), (0, x), (0, s), (1, 126), (0, 4), (0, q), v7] [] h1 = some (.inl none, h2) ∧ cW h2 (TT (gCm l x) (tI a l x s) 4) ∧ eF h h2 ∧ (∀ i, h2 2 5 i = h 2 5 i) ∧ ∀ p, 0 ≤ p → p < 4 → fgd h h2 l p := by
    intro f
    induction f with
    | zero =>
      intro q h1 v7 hq h0 W E L5 D _
      have eq : q = 4 := by omega
      subst eq
      exact ⟨h1, (rX12_putIn_27 (fun z => absurd (by decide) z) (fun z => absurd (by decide) z) (fun z => absurd (by decide) z) (fun z => absurd (by decide) z)).trans (if_pos (by decide)), W, E, L5, D⟩
    | succ f ih =>
      intro q h1 v7 hq h0 W E L5 D K
      have hq4 : 0 ≤ q ∧ q < 4 := ⟨h0, by omega⟩
      obtain ⟨d1, d2, d3⟩ := W.2.2.1 q hq4.1 hq4.2
      have s5 := W.1.2.2.2.2
      obtain ⟨h3, a1, a2, a3, a4, a5, a6⟩ := C_panCame (l := l) (x := x) W (TT_n6 n6') (TT_bQ bd' hq4) hq4 ⟨hl.1, l60⟩
      have W3 := cW_u (oP_TT gCm_loc n6' hq4) a3
      obtain ⟨h4, b1, b2, b3, b4⟩ := ih (q + 1) h3 (1, 138 + 36 * q) (by omega) (by omega) W3 (eF_tr E (fgF_eF hq4 a2)) (fun i => (a2 _ _ _ (by omega)).trans (L5 i)) (fun p u v => by
        by_cases z : p = q
        · subst z
          refine ⟨a4, a5, fun i => ?_⟩
          rw [a6, K p (by omega) (by omega)]
        · obtain ⟨e1, e2, e3⟩ := D p u (by omega)
          refine ⟨(a2 _ _ _ (by omega)).trans e1, (a2 _ _ _ (by omega)).trans e2, fun i => ?_⟩
          rw [a2 2 _ _ (by omega), e3]) (fun p u v i => by
        rw [a2 2 _ _ (by omega)]
        exact K p (by omega) v i)
      refine ⟨h4, ?_, b2, b3, b4⟩
      refine (rX12_putIn_27 (fun _ => s5.1) (fun _ => h0) (fun _ => by have := s5.2.1; omega) (fun _ => by rw [d1]; exact d2.1)).trans ((if_neg (by omega)).trans ?_)
      rw [d1]
      exact (vret_n a1).trans ((rX12_putIn_48 (by omega) (by omega)).trans b1)
  have T0 : cW (lnI h (h 2 5 l) x s (a 2 284 l)) (TT (gCm l x) (tI a l x s) 0) := by
    rw [TT_0]
    exact W0
  obtain ⟨h2, r1, r2, r3, r4⟩ := loop 4 0 _ (9, 0) (by decide) (by decide) T0 (tF_eF F0) (fun i => lnI_2 (by omega)) (fun p u v => by omega) (fun p u v i => F0 _ _ _ (by omega))
  refine ⟨h2, ?_, r2, r3, r4⟩
  have ea := C_at c.2.1 hl
  refine (show _ = _ from rX12_putIn_0 c.1 c.2.1.1 (by rw [ea]; exact ln.1.1)).trans ?_
  rw [ea]
  exact (vret_n (C_lnPut ln.1.1 ln.1.2.1 hx h80)).trans ((rX12_putIn_13 W0.1).trans r1)
/-- a line of a pane that an edit leaves -/
theorem mVt_ed {lo hi : Int} : ∀ (n : Nat) (k : Int), (∀ i, k ≤ i → i < k + n → (b 2 298 i = l ↔ a 2 298 i = l) ∧ (a 2 298 i = l → b 2 299 i = a 2 299 i) ∧ b 2 300 i = a 2 300 i) → mVt b l lo hi n k = mVt a l lo hi n k
  | 0, _, _ => rfl
  | n + 1, k, e => by
    have ih := mVt_ed (lo := lo) (hi := hi) n (k + 1) (fun i u w => e i (by omega) (by omega))
    obtain ⟨e1, e2, e3⟩ := e k (Int.le_refl _) (by omega)
    unfold mVt
    rw [ih, e3]
    by_cases z : a 2 298 k = l
    · have ev : mVon b l lo hi k = mVon a l lo hi k := by
        unfold mVon
        rw [e2 z, e1.mpr z, z]
      rw [ev, e2 z]
    · have n1 : ¬ mVon b l lo hi k := fun w => z (e1.mp w.1)
      have n2 : ¬ mVon a l lo hi k := fun w => z w.1
      rw [if_neg n1, if_neg n2]
theorem lnE_ed (e1 : b 2 293 p = a 2 293 p) (e2 : b 2 297 p = a 2 297 p) (e3 : b 2 301 p = a 2 301 p) (o : 0 ≤ a 2 297 p)
    (S : ∀ k, 6 * p ≤ k → k < 6 * p + a 2 293 p → (b 2 294 k = l ↔ a 2 294 k = l) ∧ (a 2 294 k = l → b 2 295 k = a 2 295 k ∧ b 2 296 k = a 2 296 k))
    (V : ∀ k, 6 * p ≤ k → k < 6 * p + a 2 297 p → (b 2 298 k = l ↔ a 2 298 k = l) ∧ (a 2 298 k = l → b 2 299 k = a 2 299 k) ∧ b 2 300 k = a 2 300 k)
    (F : ∀ k, 6 * p ≤ k → k < 6 * p + a 2 301 p → b 2 304 k = a 2 304 k ∧ (l ≤ b 2 302 k ↔ l ≤ a 2 302 k) ∧ (b 2 303 k < l ↔ a 2 303 k < l) ∧ (l = b 2 302 k ↔ l = a 2 302 k))
    (ew : b 2 286 p = a 2 286 p) (ed : b 2 287 p = a 2 287 p) (el : b 2 284 l = a 2 284 l) (es : ∀ i, 0 ≤ i → i < a 2 284 l → b 2 283 (80 * l + i) = a 2 283 (80 * l + i)) : lnE a b p l := by
  refine ⟨el, es, ?_, fun y => ?_, ?_, fun lo hi => ?_, ew, ed⟩
  · unfold mInv
    rw [e3]
    exact any_loc (fun k u v => by
      obtain ⟨f1, f2, f3, f4⟩ := F k u v
      rw [f1, propext f2, propext f3])
  · unfold mHid
    rw [e1]
    exact any_loc (fun k u v => by
      obtain ⟨f1, f2⟩ := S k u v
      by_cases z : a 2 294 k = l
      · rw [(f2 z).1, (f2 z).2, f1.mpr z, z]
      · exact propext ⟨fun w => absurd (f1.mp w.1) z, fun w => absurd w.1 z⟩)
  · unfold mFst
    rw [e3]
    exact any_loc (fun k u v => by
      obtain ⟨f1, f2, f3, f4⟩ := F k u v
      rw [f1, propext f4])
  · rw [e2]
    exact mVt_ed _ _ (fun i u w => V i u (by omega))
/-- all panes have forgotten a line -/
theorem cAll_fgd (w : cW h2 b) (c : cAll h a) (el : b 1504 282 0 = a 1504 282 0) (f : ∀ p, 0 ≤ p → p < 4 → fgd h h2 l p) (e : ∀ p i, 0 ≤ p → p < 4 → 0 ≤ i → i < a 1504 282 0 → ¬ i = l → lnE a b p i) : cAll h2 b := by
  refine cAll_of w (fun p u v => ?_)
  obtain ⟨f1, f2, f3⟩ := f p u v
  refine ⟨⟨fun i s t => ?_, Or.inl f1⟩, Or.inl f2⟩
  rw [f3]
  by_cases z : i = l
  · rw [if_pos z]; exact Or.inl rfl
  · rw [if_neg z, el]
    exact ((c.2.2.1 p u v).2.1.2.1.1 i s t).imp (fun z => z) (fun y => ⟨y.1, by rw [mRC_loc (e p i u v s y.1 z)]; exact y.2⟩)
end INS

