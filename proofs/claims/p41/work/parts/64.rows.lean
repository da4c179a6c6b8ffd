/-! rows of a line: s the sign of a cluster, n how many there are, W the width -/
def wd (g at_ : Int) : Int := if g = 9 then 4 - at_ % 4 else if ¬ (g < 65) ∧ ¬ (90 < g) then 2 else 1
def bl (g : Int) : Prop := g = 32 ∨ g = 9
theorem wd_le {g x : Int} (h : 0 ≤ x) : 1 ≤ wd g x ∧ wd g x ≤ 4 := by
  unfold wd
  split
  · omega
  · split <;> omega
section ROWS
variable (s : Int → Int) (n W : Int)
/-- the first cluster from k on that doesn't fit -/
def rFit : Nat → Int → Int → Int
  | 0, k, _ => k
  | f + 1, k, x => if n ≤ k then k else if W < x + wd (s k) x then k else rFit f (k + 1) (x + wd (s k) x)
/-- the column of the cluster k + m, if k stands at x -/
def rPos : Nat → Int → Int → Int
  | 0, _, x => x
  | m + 1, k, x => rPos m (k + 1) (x + wd (s k) x)
/-- the first cluster from k on that is not blank -/
noncomputable def rBl : Nat → Int → Int
  | 0, k => k
  | f + 1, k => if n ≤ k then k else @ite _ (bl (s k)) (Classical.propDecidable _) (rBl f (k + 1)) k
/-- behind the last blank of the f clusters from k on, x if there is none -/
noncomputable def rBh : Nat → Int → Int → Int
  | 0, _, x => x
  | f + 1, k, x => rBh f (k + 1) (@ite _ (bl (s k)) (Classical.propDecidable _) (k + 1) x)
/-- where the row ends that begins with the cluster st in the column c: what fits, the blanks behind, the next row -/
def rE (st c : Int) : Int := rFit s n W 140 st c
noncomputable def rB (st c : Int) : Int := rBl s n 140 (rE s n W st c)
noncomputable def rX (st c : Int) : Int := if rE s n W st c < rB s n W st c then rB s n W st c else rBh s (rE s n W st c - st).toNat st (-1)
noncomputable def rNx (st c : Int) : Int := if n ≤ rB s n W st c then rB s n W st c else if rX s n W st c = -1 then rB s n W st c else rX s n W st c
noncomputable def rWd (st c k : Int) : Int := if k < rE s n W st c then wd (s k) (rPos s (k - st).toNat st c) else 0
/-- the rows' first clusters, with the indent d -/
noncomputable def rSt (d : Int) : Nat → Int
  | 0 => 0
  | i + 1 => rNx s n W (rSt d i) (if i = 0 then 0 else d)
/-- there are R rows -/
def isR (d : Int) (R : Nat) : Prop := 1 ≤ R ∧ n ≤ rSt s n W d R ∧ ∀ i, 1 ≤ i → i < R → rSt s n W d i < n
variable {s : Int → Int} {n W : Int}
theorem isR_un {d : Int} {R Q : Nat} (a : isR s n W d R) (b : isR s n W d Q) : R = Q := by
  rcases Nat.lt_trichotomy R Q with c | c | c
  · have := b.2.2 R a.1 c
    have := a.2.1
    omega
  · exact c
  · have := a.2.2 Q b.1 c
    have := b.2.1
    omega
theorem rFit_ge : ∀ (f : Nat) (k x : Int), k ≤ rFit s n W f k x
  | 0, _, _ => Int.le_refl _
  | f + 1, k, x => by
    have := rFit_ge f (k + 1) (x + wd (s k) x)
    unfold rFit
    split
    · omega
    · split <;> omega
theorem rFit_le : ∀ (f : Nat) (k x : Int), k ≤ n → rFit s n W f k x ≤ n
  | 0, _, _, h => h
  | f + 1, k, x, h => by
    have := rFit_le f (k + 1) (x + wd (s k) x)
    unfold rFit
    split
    · omega
    · split
      · omega
      · exact this (by omega)
theorem rBl_ge : ∀ (f : Nat) (k : Int), k ≤ rBl s n f k
  | 0, _ => Int.le_refl _
  | f + 1, k => by
    have := rBl_ge f (k + 1)
    unfold rBl
    split
    · omega
    · split <;> omega
theorem rBl_le : ∀ (f : Nat) (k : Int), k ≤ n → rBl s n f k ≤ n
  | 0, _, h => h
  | f + 1, k, h => by
    have := rBl_le f (k + 1)
    unfold rBl
    split
    · omega
    · split
      · exact this (by omega)
      · omega
theorem rBh_in : ∀ (f : Nat) (k x : Int), rBh s f k x = x ∨ (k < rBh s f k x ∧ rBh s f k x ≤ k + f)
  | 0, _, _ => Or.inl rfl
  | f + 1, k, x => by
    unfold rBh
    by_cases c : bl (s k)
    · rw [if_pos c]
      rcases rBh_in f (k + 1) (k + 1) with e | e
      · rw [e]; exact Or.inr ⟨by omega, by omega⟩
      · exact Or.inr ⟨by omega, by omega⟩
    · rw [if_neg c]
      rcases rBh_in f (k + 1) x with e | e
      · exact Or.inl e
      · exact Or.inr ⟨by omega, by omega⟩
theorem rPos_ge : ∀ (m : Nat) (k x : Int), 0 ≤ x → x ≤ rPos s m k x
  | 0, _, _, _ => Int.le_refl _
  | m + 1, k, x, h => by
    have w := wd_le (g := s k) h
    have := rPos_ge m (k + 1) (x + wd (s k) x) (by omega)
    unfold rPos
    omega
theorem rE_in {st c : Int} (h : st ≤ n) : st ≤ rE s n W st c ∧ rE s n W st c ≤ n := ⟨rFit_ge _ _ _, rFit_le _ _ _ h⟩
theorem rE_gt {st c : Int} (h : st < n) (hc : 0 ≤ c ∧ c ≤ 4) (hW : 10 ≤ W) : st < rE s n W st c := by
  have w := wd_le (g := s st) hc.1
  have g := rFit_ge (s := s) (n := n) (W := W) 139 (st + 1) (c + wd (s st) c)
  have e : rE s n W st c = rFit s n W 139 (st + 1) (c + wd (s st) c) := by
    have z : rFit s n W (139 + 1) st c = if n ≤ st then st else if W < c + wd (s st) c then st else rFit s n W 139 (st + 1) (c + wd (s st) c) := rfl
    rw [if_neg (by omega), if_neg (by omega)] at z
    exact z
  omega
theorem rB_in {st c : Int} (h : st ≤ n) : rE s n W st c ≤ rB s n W st c ∧ rB s n W st c ≤ n := ⟨rBl_ge _ _, rBl_le _ _ (rE_in h).2⟩
theorem rNx_in {st c : Int} (h0 : 0 ≤ st) (h : st ≤ n) (hc : 0 ≤ c ∧ c ≤ 4) (hW : 10 ≤ W) : rNx s n W st c ≤ n ∧ (st < n → st < rNx s n W st c) ∧ rNx s n W st c ≤ rB s n W st c := by
  have a := rE_in (s := s) (n := n) (W := W) (st := st) (c := c) h
  have b := rB_in (s := s) (n := n) (W := W) (st := st) (c := c) h
  have g := fun z => rE_gt (s := s) (n := n) (W := W) (st := st) (c := c) z hc hW
  unfold rNx
  split
  · exact ⟨by omega, fun z => by have := g z; omega, by omega⟩
  · split
    · exact ⟨by omega, fun z => by have := g z; omega, by omega⟩
    · rename_i _ ne
      unfold rX at ne ⊢
      split
      · exact ⟨by omega, fun z => by have := g z; omega, by omega⟩
      · rename_i nlt
        rw [if_neg nlt] at ne
        rcases rBh_in (s := s) (rE s n W st c - st).toNat st (-1) with e | e
        · exact absurd e ne
        · exact ⟨by omega, fun z => by omega, by omega⟩
theorem rSt_in {d : Int} (h0 : 0 ≤ n) (hd : 0 ≤ d ∧ d ≤ 4) (hW : 10 ≤ W) : ∀ i, 0 ≤ rSt s n W d i ∧ rSt s n W d i ≤ n ∧ (rSt s n W d i < n → rSt s n W d i < rSt s n W d (i + 1))
  | 0 => by
    have q := rNx_in (s := s) (n := n) (W := W) (st := 0) (c := 0) (by omega) h0 (by omega) hW
    exact ⟨Int.le_refl _, h0, q.2.1⟩
  | i + 1 => by
    have p := rSt_in (d := d) h0 hd hW i
    have hc : 0 ≤ (if i = 0 then 0 else d) ∧ (if i = 0 then 0 else d) ≤ 4 := by split <;> omega
    have q := rNx_in (s := s) (n := n) (W := W) (st := rSt s n W d i) (c := if i = 0 then 0 else d) p.1 p.2.1 hc hW
    have e : rSt s n W d (i + 1) = rNx s n W (rSt s n W d i) (if i = 0 then 0 else d) := rfl
    have p2 : 0 ≤ rSt s n W d (i + 1) := by
      by_cases z : rSt s n W d i < n
      · have := p.2.2 z; omega
      · rw [e]
        have b := rB_in (s := s) (n := n) (W := W) (st := rSt s n W d i) (c := if i = 0 then 0 else d) p.2.1
        have a := rE_in (s := s) (n := n) (W := W) (st := rSt s n W d i) (c := if i = 0 then 0 else d) p.2.1
        unfold rNx
        rw [if_pos (by omega)]
        omega
    have q2 := rNx_in (s := s) (n := n) (W := W) (st := rSt s n W d (i + 1)) (c := if i + 1 = 0 then 0 else d) p2 (by rw [e]; exact q.1) (by rw [if_neg (by omega)]; exact hd) hW
    exact ⟨p2, by rw [e]; exact q.1, q2.2.1⟩
theorem rSt_ge {d : Int} (h0 : 0 ≤ n) (hd : 0 ≤ d ∧ d ≤ 4) (hW : 10 ≤ W) : ∀ i : Nat, (i : Int) ≤ n → (i : Int) ≤ rSt s n W d i
  | 0, _ => Int.le_refl _
  | i + 1, h => by
    have a := rSt_ge (d := d) h0 hd hW i (by omega)
    have p := rSt_in (s := s) (n := n) (W := W) (d := d) h0 hd hW i
    by_cases z : rSt s n W d i < n
    · have := p.2.2 z; omega
    · have q := rSt_in (s := s) (n := n) (W := W) (d := d) h0 hd hW (i + 1)
      have e : rSt s n W d i = n := by omega
      have e2 : rSt s n W d (i + 1) = n := by
        show rNx s n W (rSt s n W d i) (if i = 0 then 0 else d) = n
        have b := rB_in (s := s) (n := n) (W := W) (st := rSt s n W d i) (c := if i = 0 then 0 else d) p.2.1
        have a := rE_in (s := s) (n := n) (W := W) (st := rSt s n W d i) (c := if i = 0 then 0 else d) p.2.1
        unfold rNx
        rw [if_pos (by omega)]
        omega
      omega
end ROWS

