abbrev sA : List Int := [311, 312, 313, 314, 315, 316, 317, 318, 319, 320, 321, 322, 323, 324, 325]
abbrev sK : List Nat := [1540, 1541, 1542, 1548]
/-- what holds of the reference between calls, as far as laying out asks it -/
def mG (h : vH) : Prop := shModel h ∧ (1 ≤ h 1504 282 0 ∧ h 1504 282 0 ≤ 60) ∧ (∀ l, 0 ≤ l → l < 60 → 0 ≤ h 2 284 l ∧ h 2 284 l ≤ 80) ∧ ∀ p, 0 ≤ p → p < 4 → mOKp h p ∧ (10 ≤ h 2 286 p ∧ h 2 286 p ≤ 40) ∧ (0 ≤ h 2 287 p ∧ h 2 287 p ≤ 4)
noncomputable def rC (s : Int → Int) (n W d : Int) : Nat := @dite _ (∃ R, isR s n W d R) (Classical.propDecidable _) (fun e => Classical.choose e) (fun _ => 0)
theorem rC_eq {s : Int → Int} {n W d : Int} {R : Nat} (r : isR s n W d R) : rC s n W d = R := by
  have e : ∃ R, isR s n W d R := ⟨R, r⟩
  unfold rC
  rw [dif_pos e]
  exact isR_un (Classical.choose_spec e) r
/-- the signs of a line's clusters, and how many there are -/
noncomputable def mS (h : vH) (p l : Int) : Int → Int := fun k => ((mCL h p l).getD k.toNat (0, 0, 0, 0)).1
noncomputable def mN (h : vH) (p l : Int) : Nat := (mCL h p l).length
noncomputable def mRC (h : vH) (p l : Int) : Int := @ite _ (mInv h p l) (Classical.propDecidable _) 0 (rC (mS h p l) (mN h p l) (h 2 286 p) (h 2 287 p))
noncomputable def mRA (h : vH) (p : Int) : Nat → Int
  | 0 => 0
  | l + 1 => mRA h p l + mRC h p l
theorem mS_eq {h h1 : vH} {p l : Int} (x : pR h h1) : mS h1 p l = mS h p l := by unfold mS; rw [mCL_eq x]
theorem mN_eq {h h1 : vH} {p l : Int} (x : pR h h1) : mN h1 p l = mN h p l := by unfold mN; rw [mCL_eq x]
theorem mRC_eq {h h1 : vH} {p l : Int} (x : pR h h1) : mRC h1 p l = mRC h p l := by
  unfold mRC
  rw [mInv_eq x, mS_eq x, mN_eq x, x _ _ (by decide) (by decide), x _ _ (by decide) (by decide)]
theorem mRA_eq {h h1 : vH} {p : Int} (x : pR h h1) : ∀ l : Nat, mRA h1 p l = mRA h p l
  | 0 => rfl
  | l + 1 => by
    unfold mRA
    rw [mRA_eq x l, mRC_eq x]
section MC
variable {h : vH} {p l : Int}
theorem mTx_len {a : vH} {p l : Int} (hl : a 2 284 l ≤ 80) : ∀ (n : Nat) (lo k : Int), lo ≤ k + 1 → ((mTx a p l n lo k).length : Int) ≤ (mVn a l lo 80 (a 2 297 p).toNat (6 * p) : Int) + 3 + (if a 2 284 l ≤ k then 0 else a 2 284 l - k)
  | 0, lo, k, _ => by
    unfold mTx
    rw [List.length_append]
    have l2 := mVt_len (a := a) (l := l) (lo := lo) (hi := 80) (a 2 297 p).toNat (6 * p)
    have : (mDots a p l).length ≤ 3 := by
      unfold mDots
      split
      · exact Nat.le_refl _
      · exact Nat.zero_le _
    split <;> omega
  | n + 1, lo, k, h => by
    have d3 : (mDots a p l).length ≤ 3 := by
      unfold mDots
      split
      · exact Nat.le_refl _
      · exact Nat.zero_le _
    unfold mTx
    by_cases c : a 2 284 l ≤ k
    · rw [if_pos c, if_pos c, List.length_append]
      have l2 := mVt_len (a := a) (l := l) (lo := lo) (hi := 80) (a 2 297 p).toNat (6 * p)
      omega
    · rw [if_neg c, if_neg c, List.length_append, List.length_append]
      have l2 := mVt_len (a := a) (l := l) (lo := lo) (hi := k) (a 2 297 p).toNat (6 * p)
      have ge := mEnd_ge (a := a) (l := l) 80 (k + 1)
      have le := mEnd_le (a := a) (l := l) 80 (k + 1) (by omega)
      have ih := mTx_len (p := p) hl n (k + 1) (mEnd a l 80 (k + 1)) (by omega)
      have ad := mVn_add (a := a) (l := l) (lo := lo) (m := k) (hi := 80) h (by omega) (a 2 297 p).toNat (6 * p)
      have one : (@ite _ (mHid a p l k) (Classical.propDecidable _) [] [(a 2 283 (80 * l + k), mEnd a l 80 (k + 1) - k, k, k)] : List Clu).length ≤ 1 := by
        split
        · exact Nat.zero_le _
        · exact Nat.le_refl _
      by_cases e : a 2 284 l ≤ mEnd a l 80 (k + 1)
      · rw [if_pos e] at ih; omega
      · rw [if_neg e] at ih; omega
theorem isR_ex {s : Int → Int} {n W d : Int} (h0 : 0 ≤ n) (hd : 0 ≤ d ∧ d ≤ 4) (hW : 10 ≤ W) : ∀ m : Nat, (∃ R : Nat, isR s n W d R ∧ R ≤ m + 1) ∨ ((∀ i, 1 ≤ i → i < m + 2 → rSt s n W d i < n) ∧ (m : Int) + 1 ≤ rSt s n W d (m + 1))
  | 0 => by
    have a := rSt_in (s := s) (n := n) (W := W) (d := d) h0 hd hW 0
    by_cases c : n ≤ rSt s n W d 1
    · exact Or.inl ⟨1, ⟨Nat.le_refl _, c, fun i u v => absurd v (by omega)⟩, by omega⟩
    · refine Or.inr ⟨fun i u v => ?_, ?_⟩
      · have e : i = 1 := by omega
        subst e
        omega
      · have a1 := rSt_in (s := s) (n := n) (W := W) (d := d) h0 hd hW 1
        have z : rSt s n W d 0 = 0 := rfl
        have a3 := a.2.2 (by omega)
        show ((0 : Nat) : Int) + 1 ≤ rSt s n W d (0 + 1)
        omega
  | m + 1 => by
    rcases isR_ex (s := s) (n := n) (W := W) (d := d) h0 hd hW m with ⟨R, r, e⟩ | ⟨r1, r2⟩
    · exact Or.inl ⟨R, r, by omega⟩
    · have a := rSt_in (s := s) (n := n) (W := W) (d := d) h0 hd hW (m + 1)
      by_cases c : n ≤ rSt s n W d (m + 2)
      · exact Or.inl ⟨m + 2, ⟨by omega, c, r1⟩, by omega⟩
      · refine Or.inr ⟨fun i u v => ?_, ?_⟩
        · by_cases e : i = m + 2
          · subst e; omega
          · exact r1 i u (by omega)
        · have := a.2.2 (r1 (m + 1) (by omega) (by omega))
          show ((m + 1 : Nat) : Int) + 1 ≤ rSt s n W d (m + 1 + 1)
          omega
theorem P_rows (g : mG h) (hp : 0 ≤ p ∧ p < 4) (hl : 0 ≤ l ∧ l < 60) : ∃ R : Nat, mN h p l ≤ 131 ∧ isR (mS h p l) (mN h p l) (h 2 286 p) (h 2 287 p) R ∧ R ≤ 131 := by
  obtain ⟨g1, g2, g3, g4⟩ := g
  obtain ⟨o, w, d⟩ := g4 p hp.1 hp.2
  have t := mTx_len (a := h) (p := p) (l := l) (g3 l hl.1 hl.2).2 81 0 0 (by omega)
  have v := mVn_le (a := h) (l := l) (lo := 0) (hi := 80) (h 2 297 p).toNat (6 * p)
  have n131 : mN h p l ≤ 131 := by
    have o3 := o.2.2.1
    have o4 := o.2.2.2.1
    have g3l := g3 l hl.1 hl.2
    have e : ((mN h p l : Nat) : Int) ≤ (mVn h l 0 80 (h 2 297 p).toNat (6 * p) : Int) + 3 + (if h 2 284 l ≤ 0 then 0 else h 2 284 l - 0) := t
    split at e <;> omega
  rcases isR_ex (s := mS h p l) (n := mN h p l) (W := h 2 286 p) (d := h 2 287 p) (by omega) d w.1 130 with ⟨R, r, e⟩ | ⟨r1, r2⟩
  · exact ⟨R, n131, r, e⟩
  · have := r1 131 (by omega) (by omega)
    have r2 : ((130 : Nat) : Int) + 1 ≤ rSt (mS h p l) (mN h p l) (h 2 286 p) (h 2 287 p) 131 := r2
    omega
theorem mRC_in (g : mG h) (hp : 0 ≤ p ∧ p < 4) (hl : 0 ≤ l ∧ l < 60) : 0 ≤ mRC h p l ∧ mRC h p l ≤ 131 ∧ (¬ mInv h p l → 1 ≤ mRC h p l) := by
  obtain ⟨R, -, r⟩ := P_rows g hp hl
  unfold mRC
  by_cases c : mInv h p l
  · rw [if_pos c]; exact ⟨by decide, by decide, fun z => absurd c z⟩
  · rw [if_neg c, rC_eq r.1]
    have := r.1.1
    have := r.2
    omega
theorem mRA_in (g : mG h) (hp : 0 ≤ p ∧ p < 4) : ∀ l : Nat, l ≤ 60 → 0 ≤ mRA h p l ∧ mRA h p l ≤ 131 * l
  | 0, _ => ⟨Int.le_refl _, Int.le_refl _⟩
  | l + 1, hl => by
    have a := mRA_in g hp l (by omega)
    have b := mRC_in g hp (l := l) ⟨by omega, by omega⟩
    unfold mRA
    omega
/-- the line of a row -/
noncomputable def mLF (h : vH) (p : Int) : Nat → Nat → Int → Nat
  | 0, l, _ => l
  | f + 1, l, r => if r < mRC h p l then l else mLF h p f (l + 1) (r - mRC h p l)
noncomputable def mLn (h : vH) (p r : Int) : Nat := mLF h p 60 0 r
theorem mLF_in {h : vH} {p : Int} : ∀ (f l : Nat) (r : Int) (n : Nat), l ≤ n → n ≤ l + f → 0 ≤ r → r < mRA h p n - mRA h p l → l ≤ mLF h p f l r ∧ mLF h p f l r < n ∧ mRA h p (mLF h p f l r) ≤ mRA h p l + r ∧ mRA h p l + r < mRA h p (mLF h p f l r + 1)
  | 0, l, r, n, hl, hf, h0, hr => by
    have e : l = n := by omega
    subst e
    omega
  | f + 1, l, r, n, hl, hf, h0, hr => by
    have ne : l ≠ n := fun z => by subst z; omega
    unfold mLF
    by_cases c : r < mRC h p l
    · rw [if_pos c]
      refine ⟨Nat.le_refl _, by omega, by omega, ?_⟩
      show _ < mRA h p l + mRC h p l
      omega
    · rw [if_neg c]
      have e : mRA h p (l + 1) = mRA h p l + mRC h p l := rfl
      have := mLF_in (h := h) (p := p) f (l + 1) (r - mRC h p l) n (by omega) (by omega) (by omega) (by omega)
      omega
/-- a row of the pane -/
def isRw (h : vH) (p r : Int) : Prop := 0 ≤ r ∧ r < mRA h p (h 1504 282 0).toNat
theorem mLn_in (g : mG h) {r : Int} (hr : isRw h p r) : (mLn h p r : Int) < h 1504 282 0 ∧ mRA h p (mLn h p r) ≤ r ∧ r < mRA h p (mLn h p r) + mRC h p (mLn h p r) := by
  have e : mRA h p 0 = 0 := rfl
  have a := mLF_in (h := h) (p := p) 60 0 r (h 1504 282 0).toNat (by omega) (by have := g.2.1; omega) hr.1 (by have := hr.2; omega)
  have e2 : mRA h p (mLn h p r + 1) = mRA h p (mLn h p r) + mRC h p (mLn h p r) := rfl
  unfold mLn at e2 ⊢
  have := g.2.1
  omega
noncomputable def mAll (h : vH) (p : Int) : Int := mRA h p (h 1504 282 0).toNat
theorem mAll_in (g : mG h) (hp : 0 ≤ p ∧ p < 4) : 0 ≤ mAll h p ∧ mAll h p ≤ 7860 := by
  have gl := g.2.1
  have := mRA_in g hp (h 1504 282 0).toNat (by omega)
  unfold mAll
  omega
end MC

