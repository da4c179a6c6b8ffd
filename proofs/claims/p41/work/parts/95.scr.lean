/-! the screen: rows of a line that is laid -/
def rwF (S : Nat → Int) (c : Int) : Nat → Nat → Nat
  | 0, j => j
  | f + 1, j => if S (j + 1) ≤ c then rwF S c f (j + 1) else j
section SCR
variable (s : Int → Int) (n : Nat) (W d : Int)
/-- the row of a cluster -/
noncomputable def rowO (c : Int) : Nat := rwF (rSt s n W d) c 140 0
noncomputable def lW (c : Int) : Int := rWd s n W (rSt s n W d (rowO s n W d c)) (cI d (rowO s n W d c)) c
noncomputable def lV (c : Int) : Int := oLv s (lL s n) (lB0 s n) (rSt s n W d (rowO s n W d c)) (rSt s n W d (rowO s n W d c + 1)) c
noncomputable def lS (c : Int) : Int := oSc s (lL s n) (lB0 s n) (rSt s n W d (rowO s n W d c)) (rSt s n W d (rowO s n W d c + 1)) c
noncomputable def lC (c : Int) : Int := oCo s (lL s n) (rWd s n W (rSt s n W d (rowO s n W d c)) (cI d (rowO s n W d c))) (lB0 s n) (rSt s n W d (rowO s n W d c)) (rSt s n W d (rowO s n W d c + 1)) (cI d (rowO s n W d c)) c
end SCR
/-- different numbers, different clusters -/
def isI (a t : Int) (sc : Int → Int) : Prop := ∀ i j, a ≤ i → i < t → a ≤ j → j < t → sc i = sc j → i = j
theorem trn_isI {a t : Int} : ∀ (f : Nat) (sc : Int → Int) (x y : Int), a ≤ x → y < t → isI a t sc → isI a t (trn f sc x y)
  | 0, _, _, _, _, _, h => h
  | f + 1, sc, x, y, hx, hy, h => by
    unfold trn
    split
    · exact h
    · rename_i c
      refine trn_isI f _ (x + 1) (y - 1) (by omega) (by omega) (fun i j i1 i2 j1 j2 e => ?_)
      have e : (if i = y then sc x else if i = x then sc y else sc i) = (if j = y then sc x else if j = x then sc y else sc j) := e
      have sw : ∀ k, a ≤ k → k < t → (if k = y then sc x else if k = x then sc y else sc k) = sc (if k = y then x else if k = x then y else k) := by
        intro k _ _
        split
        · rfl
        · split <;> rfl
      rw [sw i i1 i2, sw j j1 j2] at e
      have q := h _ _ (by split <;> (try split) <;> omega) (by split <;> (try split) <;> omega) (by split <;> (try split) <;> omega) (by split <;> (try split) <;> omega) e
      split at q <;> (try split at q) <;> (try split at q) <;> (try split at q) <;> omega
theorem psR_isI {lv : Int → Int} {l a t : Int} : ∀ (f : Nat) (sc : Int → Int) (k : Int), a ≤ k → isI a t sc → isI a t (psR lv l t f sc k)
  | 0, _, _, _, h => h
  | f + 1, sc, k, hk, h => by
    have e := enR_in (lv := lv) (sc := sc) (l := l) (t := t) 140 k
    unfold psR
    split
    · exact h
    · exact psR_isI f _ _ (by omega) (trn_isI 140 sc k _ hk (by omega) h)
theorem orR_isI {lv : Int → Int} {a t : Int} : ∀ (l : Nat) (sc : Int → Int), isI a t sc → isI a t (orR lv a t l sc)
  | 0, _, h => h
  | l + 1, sc, h => orR_isI l _ (psR_isI 140 sc a (Int.le_refl _) h)
theorem oSc_isI {s lv : Int → Int} {base a t : Int} : isI a t (oSc s lv base a t) := orR_isI _ _ (fun _ _ _ _ _ _ e => e)
theorem coR_nx {wi sc : Int → Int} {a t : Int} (hI : isI a t sc) : ∀ (f : Nat) (k x : Int) (g : Int → Int), a ≤ k → k + f = t → (∀ i, k ≤ i → i + 1 < t → coR wi sc f k x g (sc (i + 1)) = coR wi sc f k x g (sc i) + wi (sc i)) ∧ (0 < f → coR wi sc f k x g (sc k) = x)
  | 0, k, x, g, hk, hf => ⟨fun i u v => by omega, fun z => absurd z (Nat.lt_irrefl 0)⟩
  | f + 1, k, x, g, hk, hf => by
    obtain ⟨a1, a2⟩ := coR_nx hI (wi := wi) f (k + 1) (x + wi (sc k)) (ipd g (sc k) x) (by omega) (by omega)
    have e : ∀ j, coR wi sc (f + 1) k x g j = coR wi sc f (k + 1) (x + wi (sc k)) (ipd g (sc k) x) j := fun _ => rfl
    have b : coR wi sc (f + 1) k x g (sc k) = x := by
      rw [e, coR_out f (k + 1) _ _ (fun i u v w => by have := hI i k (by omega) (by omega) hk (by omega) w; omega)]
      unfold ipd
      rw [if_pos rfl]
    refine ⟨fun i u v => ?_, fun _ => b⟩
    by_cases z : i = k
    · rw [z, b, e, a2 (by omega)]
    · rw [e, e]
      exact a1 i (by omega) v
section SC2
variable {s : Int → Int} {n : Nat} {W d : Int} {R : Nat}
theorem rwF_in {S : Nat → Int} {c : Int} (hR : c < S R) : ∀ (f j : Nat), S j ≤ c → j < R → R ≤ j + f → rwF S c f j < R ∧ S (rwF S c f j) ≤ c ∧ c < S (rwF S c f j + 1)
  | 0, j, _, h1, h2 => by omega
  | f + 1, j, h0, h1, h2 => by
    unfold rwF
    by_cases e : S (j + 1) ≤ c
    · rw [if_pos e]
      have : j + 1 ≠ R := fun z => by rw [z] at e; omega
      exact rwF_in hR f (j + 1) e (by omega) (by omega)
    · rw [if_neg e]
      exact ⟨h1, h0, by omega⟩
theorem rowO_in (hd : 0 ≤ d ∧ d ≤ 4) (hW : 10 ≤ W) (r : isR s n W d R) (h131 : R ≤ 131) {c : Int} (h0 : 0 ≤ c) (hc : c < n) : rowO s n W d c < R ∧ rSt s n W d (rowO s n W d c) ≤ c ∧ c < rSt s n W d (rowO s n W d c + 1) := by
  have en := isR_end (by omega) hd hW r
  exact rwF_in (S := rSt s n W d) (R := R) (by omega) 140 0 h0 (by have := r.1; omega) (by omega)
theorem row_un (hd : 0 ≤ d ∧ d ≤ 4) (hW : 10 ≤ W) {i j : Nat} {c : Int} (a : rSt s n W d i ≤ c) (b : c < rSt s n W d (i + 1)) (a2 : rSt s n W d j ≤ c) (b2 : c < rSt s n W d (j + 1)) : i = j := by
  rcases Nat.lt_trichotomy i j with z | z | z
  · have := rSt_mono (s := s) (n := n) hd hW (show i + 1 ≤ j by omega); omega
  · exact z
  · have := rSt_mono (s := s) (n := n) hd hW (show j + 1 ≤ i by omega); omega
theorem rowO_eq (hd : 0 ≤ d ∧ d ≤ 4) (hW : 10 ≤ W) (r : isR s n W d R) (h131 : R ≤ 131) {j : Nat} {c : Int} (a : rSt s n W d j ≤ c) (b : c < rSt s n W d (j + 1)) : rowO s n W d c = j := by
  have p0 := rSt_in (s := s) (n := n) (W := W) (d := d) (by omega) hd hW j
  have p1 := rSt_in (s := s) (n := n) (W := W) (d := d) (by omega) hd hW (j + 1)
  obtain ⟨q1, q2, q3⟩ := rowO_in hd hW r h131 (c := c) (by omega) (by omega)
  exact row_un hd hW q2 q3 a b
/-- the facts of a row -/
theorem row_f (hd : 0 ≤ d ∧ d ≤ 4) (hW : 10 ≤ W) (r : isR s n W d R) (h131 : R ≤ 131) (j : Nat) :
    (∀ k, rSt s n W d j ≤ k → k < rSt s n W d (j + 1) → rSt s n W d j ≤ lS s n W d k ∧ lS s n W d k < rSt s n W d (j + 1)) ∧
    (∀ k, rSt s n W d j ≤ k → k + 1 < rSt s n W d (j + 1) → lC s n W d (lS s n W d (k + 1)) = lC s n W d (lS s n W d k) + lW s n W d (lS s n W d k)) ∧
    (rSt s n W d j < rSt s n W d (j + 1) → lC s n W d (lS s n W d (rSt s n W d j)) = cI d j) ∧
    (∀ c, rSt s n W d j ≤ c → c < rSt s n W d (j + 1) → 0 ≤ lW s n W d c ∧ lW s n W d c ≤ 4) ∧
    (rSt s n W d j < rSt s n W d (j + 1) → ∃ k, rSt s n W d j ≤ k ∧ k < rSt s n W d (j + 1) ∧ 0 < lW s n W d (lS s n W d k)) ∧
    (∀ c, rSt s n W d j ≤ c → c < rSt s n W d (j + 1) → ∃ k, rSt s n W d j ≤ k ∧ k < rSt s n W d (j + 1) ∧ lS s n W d k = c) := by
  have ro : ∀ {c}, rSt s n W d j ≤ c → c < rSt s n W d (j + 1) → rowO s n W d c = j := fun a b => rowO_eq hd hW r h131 a b
  have p0 := rSt_in (s := s) (n := n) (W := W) (d := d) (by omega) hd hW j
  have p1 := rSt_in (s := s) (n := n) (W := W) (d := d) (by omega) hd hW (j + 1)
  have up := rSt_up (s := s) (n := n) hd hW j
  have c0 : 0 ≤ cI d j ∧ cI d j ≤ 4 := by unfold cI; split <;> omega
  have eS : ∀ {c}, rSt s n W d j ≤ c → c < rSt s n W d (j + 1) → lS s n W d c = oSc s (lL s n) (lB0 s n) (rSt s n W d j) (rSt s n W d (j + 1)) c := fun a b => by unfold lS; rw [ro a b]
  have eC : ∀ {c}, rSt s n W d j ≤ c → c < rSt s n W d (j + 1) → lC s n W d c = oCo s (lL s n) (rWd s n W (rSt s n W d j) (cI d j)) (lB0 s n) (rSt s n W d j) (rSt s n W d (j + 1)) (cI d j) c := fun a b => by unfold lC; rw [ro a b]
  have eW : ∀ {c}, rSt s n W d j ≤ c → c < rSt s n W d (j + 1) → lW s n W d c = rWd s n W (rSt s n W d j) (cI d j) c := fun a b => by unfold lW; rw [ro a b]
  have io := oSc_isO (s := s) (lv := lL s n) (base := lB0 s n) (a := rSt s n W d j) (t := rSt s n W d (j + 1))
  have ii := oSc_isI (s := s) (lv := lL s n) (base := lB0 s n) (a := rSt s n W d j) (t := rSt s n W d (j + 1))
  have nx := coR_nx ii (wi := rWd s n W (rSt s n W d j) (cI d j)) (rSt s n W d (j + 1) - rSt s n W d j).toNat (rSt s n W d j) (cI d j) (fun _ => 0) (Int.le_refl _) (by omega)
  have f1 : ∀ k, rSt s n W d j ≤ k → k < rSt s n W d (j + 1) → rSt s n W d j ≤ lS s n W d k ∧ lS s n W d k < rSt s n W d (j + 1) := fun k u v => by rw [eS u v]; exact io.1 k u v
  have f6 : ∀ c, rSt s n W d j ≤ c → c < rSt s n W d (j + 1) → ∃ k, rSt s n W d j ≤ k ∧ k < rSt s n W d (j + 1) ∧ lS s n W d k = c := fun c u v => by
    obtain ⟨k, k1, k2, k3⟩ := io.2 c u v
    exact ⟨k, k1, k2, by rw [eS k1 k2]; exact k3⟩
  refine ⟨f1, fun k u v => ?_, fun h => ?_, fun c u v => ?_, fun h => ?_, f6⟩
  · obtain ⟨a1, a2⟩ := f1 k u (by omega)
    obtain ⟨b1, b2⟩ := f1 (k + 1) (by omega) v
    rw [eC a1 a2, eC b1 b2, eW a1 a2, eS u (by omega), eS (show rSt s n W d j ≤ k + 1 by omega) v]
    exact nx.1 k u v
  · obtain ⟨a1, a2⟩ := f1 _ (Int.le_refl _) h
    rw [eC a1 a2, eS (Int.le_refl _) h]
    exact nx.2 (by omega)
  · rw [eW u v]
    exact rWd_in c0.1
  · obtain ⟨k, k1, k2, k3⟩ := f6 _ (Int.le_refl _) h
    refine ⟨k, k1, k2, ?_⟩
    rw [k3, eW (Int.le_refl _) h]
    unfold rWd
    rw [if_pos (rE_gt (by omega) c0 hW)]
    have := wd_le (g := s (rSt s n W d j)) (x := rPos s (rSt s n W d j - rSt s n W d j).toNat (rSt s n W d j) (cI d j)) (by rw [Int.sub_self]; exact c0.1)
    omega
/-- columns are small -/
theorem lC_in (hd : 0 ≤ d ∧ d ≤ 4) (hW : 10 ≤ W) (r : isR s n W d R) (h131 : R ≤ 131) (n131 : n ≤ 131) {c : Int} (h0 : 0 ≤ c) (hc : c < n) : 0 ≤ lC s n W d c ∧ lC s n W d c ≤ 600 ∧ 0 ≤ lW s n W d c ∧ lW s n W d c ≤ 4 := by
  obtain ⟨q1, q2, q3⟩ := rowO_in hd hW r h131 h0 hc
  obtain ⟨f1, f2, f3, f4, f5, f6⟩ := row_f hd hW r h131 (rowO s n W d c)
  have p0 := rSt_in (s := s) (n := n) (W := W) (d := d) (by omega) hd hW (rowO s n W d c)
  have p1 := rSt_in (s := s) (n := n) (W := W) (d := d) (by omega) hd hW (rowO s n W d c + 1)
  have c0 : 0 ≤ cI d (rowO s n W d c) ∧ cI d (rowO s n W d c) ≤ 4 := by unfold cI; split <;> omega
  have key : ∀ m : Nat, rSt s n W d (rowO s n W d c) + m < rSt s n W d (rowO s n W d c + 1) → 0 ≤ lC s n W d (lS s n W d (rSt s n W d (rowO s n W d c) + m)) ∧ lC s n W d (lS s n W d (rSt s n W d (rowO s n W d c) + m)) ≤ 4 + 4 * m := by
    intro m
    induction m with
    | zero =>
      intro h
      rw [show rSt s n W d (rowO s n W d c) + ((0 : Nat) : Int) = rSt s n W d (rowO s n W d c) by omega, f3 (by omega)]
      omega
    | succ m ih =>
      intro h
      have a := ih (by omega)
      have b := f2 (rSt s n W d (rowO s n W d c) + m) (by omega) (by omega)
      have e := f1 (rSt s n W d (rowO s n W d c) + m) (by omega) (by omega)
      have w := f4 _ e.1 e.2
      rw [show rSt s n W d (rowO s n W d c) + ((m + 1 : Nat) : Int) = rSt s n W d (rowO s n W d c) + m + 1 by omega, b]
      omega
  obtain ⟨k, k1, k2, k3⟩ := f6 c q2 q3
  have := key (k - rSt s n W d (rowO s n W d c)).toNat (by omega)
  rw [show rSt s n W d (rowO s n W d c) + ((k - rSt s n W d (rowO s n W d c)).toNat : Int) = k by omega, k3] at this
  have w := f4 c q2 q3
  omega
theorem lV_in (hd : 0 ≤ d ∧ d ≤ 4) (hW : 10 ≤ W) (n131 : n ≤ 131) {c : Int} (h0 : 0 ≤ c) (hc : c < n) : 0 ≤ lV s n W d c ∧ lV s n W d c ≤ 300 := by
  have w0 := wy1_in (s := s) (n := n) (o := -1)
  have q : ((c.toNat : Nat) : Int) = c := by omega
  have b := lL_in (s := s) (n := n) (k := c.toNat) (by omega)
  rw [q] at b
  unfold lV oLv
  split
  · unfold lB0; omega
  · omega
/-- the last one of some numbers that has a property -/
noncomputable def lsF (P : Int → Prop) (q : Int → Int) : Nat → Int → Int → Int
  | 0, _, r => r
  | f + 1, k, r => lsF P q f (k + 1) (@ite _ (P k) (Classical.propDecidable _) (q k) r)
theorem lsF_in {P : Int → Prop} {q : Int → Int} : ∀ (f : Nat) (k r : Int), (∃ i, k ≤ i ∧ i < k + f ∧ P i ∧ lsF P q f k r = q i ∧ ∀ m, i < m → m < k + f → ¬ P m) ∨ ((∀ i, k ≤ i → i < k + f → ¬ P i) ∧ lsF P q f k r = r)
  | 0, k, r => Or.inr ⟨fun i u v => by omega, rfl⟩
  | f + 1, k, r => by
    have ih := lsF_in (P := P) (q := q) f (k + 1) (@ite _ (P k) (Classical.propDecidable _) (q k) r)
    unfold lsF
    rcases ih with ⟨i, i1, i2, i3, i4, i5⟩ | ⟨j1, j2⟩
    · exact Or.inl ⟨i, by omega, by omega, i3, i4, fun m u v => i5 m u (by omega)⟩
    · by_cases c : P k
      · left
        refine ⟨k, Int.le_refl _, by omega, c, ?_, fun m u v => j1 m (by omega) (by omega)⟩
        rw [j2, if_pos c]
      · right
        refine ⟨fun i u v => ?_, ?_⟩
        · by_cases e : i = k
          · rw [e]; exact c
          · exact j1 i (by omega) (by omega)
        · rw [j2, if_neg c]
end SC2

