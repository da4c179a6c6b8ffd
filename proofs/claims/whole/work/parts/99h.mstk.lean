/-! the reference deals the heights -/
theorem shM_310 {h : vH} (s : shModel h) : h 0 310 0 = 1 ∧ h 1 310 0 = 4 := ⟨s.2.2.2.2.2.2.2.2.2.2.2.2.2.2.2.2.2.2.2.2.2.2.2.2.2.2.2.2.2.2.2.2.2.2.2.2.2.2.2.2.2.2.2.2.2.2.2.2.2.2.2.2.2.2.2.2.2.2.2.2.2.2.2.2.2.2.2.2.2.2.2.2.2.2.2.2.2.2.2.2.2.2.2.1, s.2.2.2.2.2.2.2.2.2.2.2.2.2.2.2.2.2.2.2.2.2.2.2.2.2.2.2.2.2.2.2.2.2.2.2.2.2.2.2.2.2.2.2.2.2.2.2.2.2.2.2.2.2.2.2.2.2.2.2.2.2.2.2.2.2.2.2.2.2.2.2.2.2.2.2.2.2.2.2.2.2.2.2.2.1⟩
/-- one array of four is changed -/
def hF (A : Int) (h h2 : vH) : Prop := ∀ (k : Nat) (r i : Int), ¬ (k = 2 ∧ r = A ∧ 0 ≤ i ∧ i < 4) → h2 k r i = h k r i
theorem hF_rf {A : Int} {h : vH} : hF A h h := fun _ _ _ _ => rfl
theorem hF_up {A : Int} {h h2 : vH} {j v : Int} (x : hF A h h2) (hj : 0 ≤ j ∧ j < 4) : hF A h (vup h2 2 A j v) := fun k r i e => (if_neg (fun z => e ⟨z.1, z.2.1, by omega, by omega⟩)).trans (x k r i e)
theorem hF_sx {A : Int} {h h2 : vH} (x : hF A h h2) : sx h h2 := fun k r i hk => x k r i (fun z => by rw [z.1] at hk; cases hk)
/-- the reference's arrays of the stack -/
def mSt (H : vH) (op wt ls lk : Int → Int) : Prop := ∀ p, 0 ≤ p → p < 4 → H 2 289 p = op p ∧ H 2 290 p = wt p ∧ H 2 291 p = ls p ∧ H 2 292 p = lk p
def stB (op wt ls lk : Int → Int) : Prop := ∀ p, 0 ≤ p → p < 4 → (1 ≤ wt p ∧ wt p ≤ 9) ∧ (1 ≤ ls p ∧ ls p ≤ 8) ∧ (lk p = -1 ∨ (1 ≤ lk p ∧ lk p ≤ 16)) ∧ (op p = 0 ∨ op p = 1)
theorem mSt_F {h h2 : vH} {op wt ls lk : Int → Int} (x : hF 310 h h2) (s : mSt h op wt ls lk) : mSt h2 op wt ls lk := fun p u v => by
  rw [x 2 289 p (by omega), x 2 290 p (by omega), x 2 291 p (by omega), x 2 292 p (by omega)]
  exact s p u v
section MSK
variable {h H : vH} {op wt ls lk f : Int → Int}
theorem M_isLocked (sM : shModel H) (s : mSt H op wt ls lk) {p : Int} (hp : 0 ≤ p ∧ p < 4) : vcl mX13_isLocked [(1, 282), (0, p)] H = some (.inl (some (0, sLk op lk p)), H) := by
  have loop : ∀ (n k : Nat) (is : Int), k + n = 4 → (is = 0 ∨ is = 1) → vrun mX13_isLocked 7 [(1, 282), (0, p), (0, is), (0, sLo op k), (0, (k : Int))] [] H = some (.inl (some (0, b2i (¬ lk p = -1 ∧ ((¬ is = 0 ∨ anyI (fun k => ¬ op k = 0 ∧ lk k = -1) k 4) ∨ ¬ p = sLo op 4)))), H) := by
    intro n
    induction n with
    | zero =>
      intro k is hk h01
      have e : k = 4 := by omega
      subst e
      refine (rX13_isLocked_7 sM (by omega) (by omega) (by omega) (by omega)).trans ?_
      rw [if_pos (by omega), b2i_if, (s p hp.1 hp.2).2.2.2, b2i_c (Q := ¬ lk p = -1 ∧ ((¬ is = 0 ∨ anyI (fun k => ¬ op k = 0 ∧ lk k = -1) ((4 : Nat) : Int) 4) ∨ ¬ p = sLo op 4))]
      constructor
      · rintro ⟨z1, z2⟩
        exact ⟨z1, z2.imp Or.inl (fun w => w)⟩
      · rintro ⟨z1, z2⟩
        exact ⟨z1, z2.imp (fun w => w.resolve_right (any_nil (by omega))) (fun w => w)⟩
    | succ n ih =>
      intro k is hk h01
      have sk := s k (by omega) (by omega)
      have e : sLo op (k + 1) = if op k = 0 then sLo op k else (k : Int) := rfl
      refine (rX13_isLocked_7 sM (by omega) (by omega) (by omega) (by omega)).trans ?_
      rw [if_neg (by omega), sk.1, sk.2.2.2, ← e]
      refine (ih (k + 1) _ (by omega) b01).trans ?_
      congr 5
      apply b2i_c
      rw [b2i_if, b2i_0, Classical.not_not, any_step (show (k : Int) < 4 by omega), show ((k + 1 : Nat) : Int) = (k : Int) + 1 by omega]
      simp only [or_assoc]
  refine rX13_isLocked_0.trans ((loop 4 0 0 (by omega) (Or.inl rfl)).trans ?_)
  congr 5
  unfold sLk
  apply b2i_c
  constructor
  · rintro ⟨z1, z2⟩
    exact ⟨z1, z2.imp (fun w => w.resolve_left (fun y => y rfl)) (fun w => w)⟩
  · rintro ⟨z1, z2⟩
    exact ⟨z1, z2.imp Or.inr (fun w => w)⟩
theorem M_poorest (sM : shModel H) (s : mSt H op wt ls lk) (hf : ∀ p, 0 ≤ p → p < 4 → H 2 310 p = f p) : vcl mX13_poorest [(1, 282)] H = some (.inl (some (0, sPo op ls lk f 4 0)), H) := by
  have loop : ∀ (m : Nat), m ≤ 4 → vrun mX13_poorest 4 [(1, 282), (0, sPo op ls lk f (4 - m) m), (0, (m : Int) - 1)] [] H = some (.inl (some (0, sPo op ls lk f 4 0)), H) := by
    intro m
    induction m with
    | zero =>
      intro _
      refine (rX13_poorest_4 sM (by omega)).trans ?_
      rw [if_pos (by omega)]
      rfl
    | succ m ih =>
      intro hm
      have ih := ih (by omega)
      have sk := s m (by omega) (by omega)
      have e : sPo op ls lk f (4 - m) (m : Int) = if sSh op lk m = 0 then sPo op ls lk f (4 - (m + 1)) ((m : Int) + 1) else if ls m ≤ f m then sPo op ls lk f (4 - (m + 1)) ((m : Int) + 1) else (m : Int) := by
        rw [show 4 - m = (4 - (m + 1)) + 1 by omega]
        rfl
      rw [show ((m + 1 : Nat) : Int) - 1 = (m : Int) by omega, show ((m + 1 : Nat) : Int) = (m : Int) + 1 by omega]
      refine (rX13_poorest_4 sM (by omega)).trans ?_
      rw [if_neg (by omega), sk.1]
      by_cases c : op m = 0
      · have sh : sSh op lk m = 0 := if_pos c
        rw [if_pos c]
        rw [e, if_pos sh] at ih
        exact ih
      · have sh : sSh op lk m = 1 - sLk op lk m := if_neg c
        rw [if_neg c]
        refine (vret_v (M_isLocked sM s (p := (m : Int)) (by omega))).trans ((rX13_poorest_22 sM (by omega) (by omega) (by omega) (by omega)).trans ?_)
        rw [sk.2.2.1, hf m (by omega) (by omega)]
        rw [e] at ih
        rcases sLk_01 (op := op) (lk := lk) (p := (m : Int)) with z | z
        · rw [if_neg (by omega)] at ih
          rw [if_pos z]
          exact ih
        · rw [if_pos (by omega)] at ih
          rw [if_neg (by omega)]
          exact ih
  exact rX13_poorest_0.trans (loop 4 (Nat.le_refl _))
theorem M_richest (sM : shModel H) (s : mSt H op wt ls lk) (hf : ∀ p, 0 ≤ p → p < 4 → H 2 310 p = f p) (fb : ∀ p, 0 ≤ p → p < 4 → -1000 ≤ f p ∧ f p ≤ 1000) (b : stB op wt ls lk) : vcl mX13_richest [(1, 282)] H = some (.inl (some (0, sRi op ls lk f 4 0 (-1))), H) := by
  have loop : ∀ (n : Nat) (p r : Int) (v : vv), p + n = 4 → 0 ≤ p → (r = -1 ∨ (0 ≤ r ∧ r < p)) → vrun mX13_richest 4 [(1, 282), (0, r), (0, p), v] [] H = some (.inl (some (0, sRi op ls lk f n p r)), H) := by
    intro n
    induction n with
    | zero =>
      intro p r v hp h0 hr
      refine (rX13_richest_4 sM (by omega)).trans ?_
      rw [if_pos (by omega)]
      rfl
    | succ n ih =>
      intro p r v hp h0 hr
      have sk := s p (by omega) (by omega)
      have bp := b p (by omega) (by omega)
      have fp := fb p (by omega) (by omega)
      have e : sRi op ls lk f (n + 1) p r = sRi op ls lk f n (p + 1) (if sSh op lk p = 0 then r else if f p ≤ ls p then r else if r = -1 then p else if f p - ls p ≤ f r - ls r then r else p) := rfl
      refine (rX13_richest_4 sM (by omega)).trans ?_
      rw [if_neg (by omega), sk.1]
      by_cases c : op p = 0
      · have sh : sSh op lk p = 0 := if_pos c
        rw [if_pos c, e, if_pos sh]
        exact ih (p + 1) r _ (by omega) (by omega) (by omega)
      · have sh : sSh op lk p = 1 - sLk op lk p := if_neg c
        have hr2 : ¬ r = -1 → H 2 310 r = f r ∧ H 2 291 r = ls r ∧ (-1000 ≤ f r ∧ f r ≤ 1000) ∧ (1 ≤ ls r ∧ ls r ≤ 8) := fun z => ⟨hf r (by omega) (by omega), (s r (by omega) (by omega)).2.2.1, fb r (by omega) (by omega), (b r (by omega) (by omega)).2.1⟩
        have hfp := hf p (by omega) (by omega)
        rw [if_neg c, e]
        refine (vret_v (M_isLocked sM s (p := p) (by omega))).trans ((rX13_richest_23 sM (by omega) (by omega) (by omega) (by omega) (by omega) (by omega) (by omega) (by omega) (fun _ z => by have := hr2 z; omega) (fun _ z => by have := hr2 z; omega) (by omega) (by omega)).trans ?_)
        have ee : (if sLk op lk p = 0 ∧ ¬ (H 2 310 p ≤ H 2 291 p) then (if r = -1 then p else (if H 2 310 p - H 2 291 p ≤ H 2 310 r - H 2 291 r then r else p)) else r) = (if sSh op lk p = 0 then r else if f p ≤ ls p then r else if r = -1 then p else if f p - ls p ≤ f r - ls r then r else p) := by
          rw [hfp, sk.2.2.1]
          rcases sLk_01 (op := op) (lk := lk) (p := p) with z | z
          · rw [if_neg (show ¬ sSh op lk p = 0 by omega)]
            by_cases d : f p ≤ ls p
            · rw [if_neg (fun w => w.2 d), if_pos d]
            · rw [if_pos ⟨z, d⟩, if_neg d]
              by_cases y : r = -1
              · rw [if_pos y, if_pos y]
              · rw [if_neg y, if_neg y, (hr2 y).1, (hr2 y).2.1]
          · rw [if_neg (fun w => by omega), if_pos (show sSh op lk p = 0 by omega)]
        rw [ee]
        refine ih (p + 1) _ _ (by omega) (by omega) ?_
        split
        · omega
        · split
          · omega
          · split
            · omega
            · split <;> omega
  exact rX13_richest_0.trans (loop 4 0 (-1) (9, 0) (by omega) (Int.le_refl _) (Or.inl rfl))
/-- bounds -/
theorem sF1_in (b : stB op wt ls lk) {p : Int} (h0 : 0 ≤ p) (h4 : p < 4) : 0 ≤ sF1 op lk p ∧ sF1 op lk p ≤ 16 := by
  have bp := b p h0 h4
  unfold sF1
  split
  · omega
  · split
    · omega
    · rename_i c d
      have : ¬ lk p = -1 := by
        intro z
        exact d (b2i_f (fun w => w.1 z))
      omega
theorem sWt_in (b : stB op wt ls lk) {p : Int} (h0 : 0 ≤ p) (h4 : p < 4) : 0 ≤ sWt op wt lk p ∧ sWt op wt lk p ≤ 9 ∧ (¬ op p = 0 → sLk op lk p = 0 → sWt op wt lk p = wt p) := by
  have bp := b p h0 h4
  unfold sWt
  split
  · exact ⟨by omega, by omega, fun z => by contradiction⟩
  · split
    · exact ⟨by omega, by omega, fun _ _ => rfl⟩
    · exact ⟨by omega, by omega, fun _ z => by contradiction⟩
theorem sSm_in {g : Int → Int} {m : Int} (hg : ∀ p, 0 ≤ p → p < 4 → 0 ≤ g p ∧ g p ≤ m) : ∀ j : Nat, j ≤ 4 → 0 ≤ sSm g j ∧ sSm g j ≤ m * j
  | 0, _ => ⟨Int.le_refl _, by show (0 : Int) ≤ m * ((0 : Nat) : Int); rw [show ((0 : Nat) : Int) = 0 from rfl, Int.mul_zero]; exact Int.le_refl _⟩
  | j + 1, hj => by
    have ih := sSm_in hg j (by omega)
    have q := hg j (by omega) (by omega)
    have e : sSm g (j + 1) = sSm g j + g j := rfl
    have e2 : m * ((j + 1 : Nat) : Int) = m * (j : Int) + m := by rw [show ((j + 1 : Nat) : Int) = (j : Int) + 1 by omega, Int.mul_add, Int.mul_one]
    omega
theorem sRe_in (b : stB op wt ls lk) : 0 ≤ sRe op lk ∧ sRe op lk ≤ 24 := by
  have := sSm_in (g := sF1 op lk) (m := 16) (fun p u v => sF1_in b u v) 4 (Nat.le_refl _)
  unfold sRe
  split <;> omega
theorem sQ_in (b : stB op wt ls lk) {p : Int} (h0 : 0 ≤ p) (h4 : p < 4) : (0 ≤ sRe op lk * wt p ∧ sRe op lk * wt p ≤ 216) ∧ (¬ op p = 0 → sLk op lk p = 0 → 0 < sSm (sWt op wt lk) 4) ∧ (0 ≤ sQ op wt lk p ∧ sQ op wt lk p ≤ 216) := by
  have re := sRe_in b
  have bp := b p h0 h4
  have m1 : 0 ≤ sRe op lk * wt p := Int.mul_nonneg re.1 (by omega)
  have m2 : sRe op lk * wt p ≤ 24 * 9 := Int.mul_le_mul re.2 bp.1.2 (by omega) (by omega)
  have w : ¬ op p = 0 → sLk op lk p = 0 → 0 < sSm (sWt op wt lk) 4 := by
    intro c d
    have w0 := sWt_in b (p := 0) (by omega) (by omega)
    have w1 := sWt_in b (p := 1) (by omega) (by omega)
    have w2 := sWt_in b (p := 2) (by omega) (by omega)
    have w3 := sWt_in b (p := 3) (by omega) (by omega)
    have wp := (sWt_in b h0 h4).2.2 c d
    rw [sSm_4]
    rcases (show p = 0 ∨ p = 1 ∨ p = 2 ∨ p = 3 by omega) with z | z | z | z <;> subst z <;> omega
  refine ⟨⟨m1, by omega⟩, w, ?_⟩
  unfold sQ
  split
  · omega
  · split
    · rename_i c d
      have wp := w c d
      have d1 : 0 ≤ sRe op lk * wt p / sSm (sWt op wt lk) 4 := Int.ediv_nonneg m1 (by omega)
      have d2 : sRe op lk * wt p / sSm (sWt op wt lk) 4 ≤ sRe op lk * wt p := Int.ediv_le_self _ m1
      omega
    · omega
theorem sF2_in (b : stB op wt ls lk) {p : Int} (h0 : 0 ≤ p) (h4 : p < 4) : 0 ≤ sF2 op wt lk p ∧ sF2 op wt lk p ≤ 216 ∧ sF2 op wt lk p = sF1 op lk p + sQ op wt lk p := by
  have f1 := sF1_in b h0 h4
  have q := (sQ_in b h0 h4).2.2
  have e : sF2 op wt lk p = sF1 op lk p + sQ op wt lk p ∧ (sF1 op lk p = 0 ∨ sQ op wt lk p = 0) := by
    unfold sF2 sQ sF1
    by_cases c : op p = 0
    · rw [if_pos c, if_pos c, if_pos c]; exact ⟨by omega, Or.inl rfl⟩
    · rw [if_neg c, if_neg c, if_neg c]
      by_cases d : sLk op lk p = 0
      · rw [if_pos d, if_pos d, if_pos d]; exact ⟨by omega, Or.inl rfl⟩
      · rw [if_neg d, if_neg d, if_neg d]; exact ⟨by omega, Or.inr rfl⟩
  omega
theorem sLf_in (b : stB op wt ls lk) : ∀ j : Nat, j ≤ 4 → -1000 ≤ sLf op wt lk j ∧ sLf op wt lk j ≤ 24
  | 0, _ => by
    have := sSm_in (g := sQ op wt lk) (m := 216) (fun p u v => (sQ_in b u v).2.2) 4 (Nat.le_refl _)
    have re := sRe_in b
    show -1000 ≤ sRe op lk - sSm (sQ op wt lk) 4 ∧ sRe op lk - sSm (sQ op wt lk) 4 ≤ 24
    omega
  | j + 1, hj => by
    have ih := sLf_in b j (by omega)
    have e : sLf op wt lk (j + 1) = sLf op wt lk j - (if op j = 0 then 0 else if sLk op lk j = 0 ∧ ¬ (sLf op wt lk j ≤ 0) then 1 else 0) := rfl
    rw [e]
    split
    · omega
    · split <;> omega
theorem sG_01 {p : Int} : sG op wt lk p = 0 ∨ sG op wt lk p = 1 := by
  unfold sG
  split
  · exact Or.inl rfl
  · split
    · exact Or.inr rfl
    · exact Or.inl rfl
/-- THE REFERENCE SHARES THE SCREEN -/
theorem M_sharesT (sM : shModel h) (s : mSt h op wt ls lk) (b : stB op wt ls lk) {x1 x2 x3 : Int} : ∀ (n : Nat) (f : Int → Int) (x4 : Int) (v : vv) (H : vH), sSm (sEx op ls lk f) 4 ≤ n → hF 310 h H → (∀ p, 0 ≤ p → p < 4 → H 2 310 p = f p) → (∀ p, 0 ≤ p → p < 4 → -500 + n ≤ f p ∧ f p ≤ 500 - n) → ∃ h2, vrun mX13_shares 238 [(1, 282), (0, x1), (0, x2), (0, x3), (0, x4), v] [] H = some (.inl none, h2) ∧ hF 310 h h2 ∧ ∀ p, 0 ≤ p → p < 4 → h2 2 310 p = sTf op ls lk n f p := by
  intro n
  induction n with
  | zero =>
    intro f x4 v H hE hX hf fb
    have sM1 := shModel_sx (hF_sx hX) sM
    have s1 := mSt_F hX s
    have po := M_poorest sM1 s1 hf
    have ri := M_richest sM1 s1 hf (fun p u v => by have := fb p u v; omega) b
    have base := (rX13_shares_238 (x1 := x1) (x2 := x2) (x3 := x3) (x4 := x4) (v5 := v) sM1).trans ((vret_v po).trans (rX13_shares_242 sM1))
    by_cases z1 : sPo op ls lk f 4 0 = -1
    · rw [if_pos z1] at base
      exact ⟨H, base, hX, hf⟩
    · rw [if_neg z1] at base
      have base := base.trans ((vret_v ri).trans (rX13_shares_250 sM1))
      by_cases z2 : sRi op ls lk f 4 0 (-1) = -1
      · rw [if_pos z2] at base
        exact ⟨H, base, hX, hf⟩
      · have := sSt_ex z1 z2
        have := sEx_4 (op := op) (ls := ls) (lk := lk) (f := sSt op ls lk f)
        omega
  | succ n ih =>
    intro f x4 v H hE hX hf fb
    have sM1 := shModel_sx (hF_sx hX) sM
    have s1 := mSt_F hX s
    have po := M_poorest sM1 s1 hf
    have ri := M_richest sM1 s1 hf (fun p u v => by have := fb p u v; omega) b
    have base := (rX13_shares_238 (x1 := x1) (x2 := x2) (x3 := x3) (x4 := x4) (v5 := v) sM1).trans ((vret_v po).trans (rX13_shares_242 sM1))
    have e : sTf op ls lk (n + 1) f = if sPo op ls lk f 4 0 = -1 then f else if sRi op ls lk f 4 0 (-1) = -1 then f else sTf op ls lk n (sSt op ls lk f) := rfl
    rw [e]
    by_cases z1 : sPo op ls lk f 4 0 = -1
    · rw [if_pos z1]
      rw [if_pos z1] at base
      exact ⟨H, base, hX, hf⟩
    · rw [if_neg z1]
      rw [if_neg z1] at base
      have base := base.trans ((vret_v ri).trans (rX13_shares_250 sM1))
      by_cases z2 : sRi op ls lk f 4 0 (-1) = -1
      · rw [if_pos z2]
        rw [if_pos z2] at base
        exact ⟨H, base, hX, hf⟩
      · rw [if_neg z2]
        rw [if_neg z2] at base
        have x := sSt_ex z1 z2
        obtain ⟨p1, p2, p3, p4⟩ := (sPo_in (op := op) (ls := ls) (lk := lk) (f := f) 4 0).resolve_left z1
        obtain ⟨r1, r2, r3, r4⟩ := (sRi_in (op := op) (ls := ls) (lk := lk) (f := f) 4 0 (-1) (Int.le_refl _) (Or.inl rfl)).resolve_left z2
        have st : ∀ i, sSt op ls lk f i = if i = sPo op ls lk f 4 0 then f i + 1 else if i = sRi op ls lk f 4 0 (-1) then f i - 1 else f i := fun i => rfl
        generalize hP : sPo op ls lk f 4 0 = P at *
        generalize hR : sRi op ls lk f 4 0 (-1) = R at *
        have ne : ¬ P = R := fun z => by rw [z] at p4; omega
        have fP := fb P (by omega) (by omega)
        have fR := fb R (by omega) (by omega)
        have hfP := hf P (by omega) (by omega)
        have hfR := hf R (by omega) (by omega)
        have sh := shM_310 sM1
        have vP : (vup H 2 310 R (H 2 310 R - 1)) 2 310 P = f P := (vup_i ne).trans hfP
        obtain ⟨h2, i1, i2, i3⟩ := ih (sSt op ls lk f) P v (vup (vup H 2 310 R (H 2 310 R - 1)) 2 310 P ((vup H 2 310 R (H 2 310 R - 1)) 2 310 P + 1)) (by omega) (hF_up (hF_up hX (by omega)) (by omega)) (fun p u v => by
          rw [vup_2, vP, st]
          by_cases y : p = P
          · rw [if_pos y, if_pos y, y]
          · rw [if_neg y, if_neg y, vup_2]
            by_cases y2 : p = R
            · rw [if_pos y2, if_pos y2, hfR, y2]
            · rw [if_neg y2, if_neg y2]; exact hf p u v) (fun p u v => by
          have := fb p u v
          rw [st]
          split
          · omega
          · split <;> omega)
        refine ⟨h2, base.trans ((vret_v po).trans ((rX13_shares_258 sM1).trans ((vret_v ri).trans ((rX13_shares_268 sh.1 (by omega) (by omega) (by omega) (by omega) sM1 (by omega) (by omega) (by omega) (by omega)).trans i1)))), i2, i3⟩
end MSK
