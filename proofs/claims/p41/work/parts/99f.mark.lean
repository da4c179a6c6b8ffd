/-! marks at the side, and the small picture -/
noncomputable def mkR (a : vH) (lo hi : Int) : Nat → Int → Int → Int
  | 0, _, r => r
  | f + 1, l, r => mkR a lo hi f (l + 1) (r + b2i ((lo ≤ l ∧ l ≤ hi) ∧ ¬ (a 2 285 l = 0)))
noncomputable def mkE (a : vH) (p l : Int) : Int := max l (mCe a p l (a 2 301 p).toNat (6 * p) (-1))
noncomputable def mkV (a : vH) (p r : Int) : Int := if r = mRA a p (mLn a p r) then mkR a (mLn a p r) (mkE a p (mLn a p r)) (a 1504 282 0).toNat 0 0 else 0
theorem mkR_off {a : vH} {lo hi : Int} : ∀ (f : Nat) (l r : Int), (∀ i, l ≤ i → i < l + f → ¬ (lo ≤ i ∧ i ≤ hi)) → mkR a lo hi f l r = r
  | 0, _, _, _ => rfl
  | f + 1, l, r, h => by
    have e : mkR a lo hi (f + 1) l r = mkR a lo hi f (l + 1) (r + b2i ((lo ≤ l ∧ l ≤ hi) ∧ ¬ (a 2 285 l = 0))) := rfl
    rw [e, b2i_f (fun z => h l (Int.le_refl _) (by omega) z.1), Int.add_zero]
    exact mkR_off f (l + 1) r (fun i u v => h i (by omega) (by omega))
theorem mkR_skip {a : vH} {lo hi : Int} : ∀ (f g : Nat) (l r : Int), (∀ i, l ≤ i → i < l + f → ¬ (lo ≤ i ∧ i ≤ hi)) → mkR a lo hi (f + g) l r = mkR a lo hi g (l + f) r
  | 0, g, l, r, _ => by rw [Nat.zero_add]; show _ = mkR a lo hi g (l + (0 : Nat)) r; rw [show l + ((0 : Nat) : Int) = l by omega]
  | f + 1, g, l, r, h => by
    have e : mkR a lo hi (f + g + 1) l r = mkR a lo hi (f + g) (l + 1) (r + b2i ((lo ≤ l ∧ l ≤ hi) ∧ ¬ (a 2 285 l = 0))) := rfl
    rw [show f + 1 + g = f + g + 1 by omega, e, b2i_f (fun z => h l (Int.le_refl _) (by omega) z.1), Int.add_zero, mkR_skip f g (l + 1) r (fun i u v => h i (by omega) (by omega)), show l + 1 + (f : Int) = l + ((f + 1 : Nat) : Int) by omega]
section MRK
variable {a b h : vH} {p P r : Int}
theorem C_markedFrom (cT : cTx h a) {l e : Int} (hl : 0 ≤ l ∧ l < a 1504 282 0) (he : l ≤ e) : vcl mX10_markedFrom [(1, 4), (0, l), (0, e)] h = some (.inl (some (0, mkR a l e (a 1504 282 0).toNat 0 0)), h) := by
  have cn := cT.2.1
  have loop : ∀ (f : Nat) (i n : Int), i + f = a 1504 282 0 → l ≤ i → 0 ≤ n → n ≤ i → vrun mX10_markedFrom 5 [(1, 4), (0, l), (0, e), (0, n), (0, i)] [] h = some (.inl (some (0, mkR a l e f i n)), h) := by
    intro f
    induction f with
    | zero =>
      intro i n hi h0 n0 ni
      refine (rX10_markedFrom_5 cT.1 (by omega) (by omega) (by omega) (by omega) (by omega)).trans ?_
      rw [if_pos (show h 1201 4 0 ≤ i by omega), ite_self]
      rfl
    | succ f ih =>
      intro i n hi h0 n0 ni
      have at1 := C_at cT (l := i) ⟨by omega, by omega⟩
      have ln := cT.2.2.2.2 i (by omega) (by omega)
      have st := rX10_markedFrom_5 (h := h) (x1 := l) (x2 := e) (x3 := n) (x4 := i) cT.1 (fun _ _ => by rw [at1]; exact ln.1.1) (by omega) (by omega) (by omega) (by omega)
      rw [at1, ln.2, if_neg (show ¬ h 1201 4 0 ≤ i by omega)] at st
      refine st.trans ?_
      by_cases z : e < i
      · rw [if_pos z, mkR_off (f + 1) i n (fun j u v => by omega)]
      · have eq : mkR a l e (f + 1) i n = mkR a l e f (i + 1) (n + b2i ((l ≤ i ∧ i ≤ e) ∧ ¬ (a 2 285 i = 0))) := rfl
        have e2 : (if a 2 285 i = 0 then n else n + 1) = n + b2i ((l ≤ i ∧ i ≤ e) ∧ ¬ (a 2 285 i = 0)) := by
          by_cases w : a 2 285 i = 0
          · rw [if_pos w, b2i_f (fun y => y.2 w), Int.add_zero]
          · rw [if_neg w, b2i_t ⟨⟨h0, by omega⟩, w⟩]
        have b := b2i_01 (P := (l ≤ i ∧ i ≤ e) ∧ ¬ (a 2 285 i = 0))
        rw [if_neg z, e2, eq]
        exact ih (i + 1) _ (by omega) (by omega) (by omega) (by omega)
  refine rX10_markedFrom_0.trans ((loop (a 1504 282 0 - l).toNat l 0 (by omega) (Int.le_refl _) (Int.le_refl _) hl.1).trans ?_)
  have sk := mkR_skip (a := a) (lo := l) (hi := e) l.toNat (a 1504 282 0 - l).toNat 0 0 (fun i u v => by omega)
  rw [show l.toNat + (a 1504 282 0 - l).toNat = (a 1504 282 0).toNat by omega, show (0 : Int) + (l.toNat : Int) = l by omega] at sk
  rw [sk]
theorem C_marksOfRow (g : iG a) (hp : 0 ≤ p ∧ p < 4) (c : cRd h a p P) (hr : isRw a p r) : vcl mX5_marksOfRow [(1, P), (0, r)] h = some (.inl (some (0, mkV a p r)), h) := by
  obtain ⟨l1, j1, j2, v, r7⟩ := rw_in g.1 hp hr
  have lr := C_lineOfRow g.1 hp c hr
  have f2 := (cRd_f g.1 c (l := mLn a p r) l1.2.1).2
  have o := (g.1.2.2.2 p hp.1 hp.2).1
  have ce := C_closedEnd (l := (mLn a p r : Int)) c.2.1.2.1 ⟨o.2.2.2.2.1, o.2.2.2.2.2.1⟩
  have s := rX5_marksOfRow_5 (h := h) (x0 := P) (x1 := r) (y0 := (mLn a p r : Int)) c.2.1.1
  rw [f2] at s
  refine (rX5_marksOfRow_0 c.2.1.1).trans ((vret_v lr).trans (s.trans ?_))
  unfold mkV
  by_cases z : r = mRA a p (mLn a p r)
  · rw [if_pos z, if_pos z]
    have mf := C_markedFrom c.1 (l := (mLn a p r : Int)) (e := mkE a p (mLn a p r)) ⟨l1.1, l1.2.1⟩ (by unfold mkE; omega)
    exact (vret_v ce).trans ((rX5_marksOfRow_31 c.1.1).trans ((vret_v mf).trans rX5_marksOfRow_37))
  · rw [if_neg z, if_neg z]
end MRK

