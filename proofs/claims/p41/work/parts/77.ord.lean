/-! the order of a row on the screen -/
/-- what is between a and b is turned round -/
def trn : Nat → (Int → Int) → Int → Int → (Int → Int)
  | 0, f, _, _ => f
  | k + 1, f, a, b => if b ≤ a then f else trn k (fun j => if j = b then f a else if j = a then f b else f j) (a + 1) (b - 1)
/-- where the run ends of clusters whose level is l or more -/
def enR (lv sc : Int → Int) (l t : Int) : Nat → Int → Int
  | 0, e => e
  | f + 1, e => if t ≤ e then e else if lv (sc e) < l then e else enR lv sc l t f (e + 1)
def psR (lv : Int → Int) (l t : Int) : Nat → (Int → Int) → Int → (Int → Int)
  | 0, sc, _ => sc
  | f + 1, sc, k => if t ≤ k then sc else psR lv l t f (trn 140 sc k (enR lv sc l t 140 k - 1)) (enR lv sc l t 140 k + 1)
def orR (lv : Int → Int) (a t : Int) : Nat → (Int → Int) → (Int → Int)
  | 0, sc => sc
  | l + 1, sc => orR lv a t l (psR lv ((l : Int) + 1) t 140 sc a)
/-- where the blanks at the end of a row begin, looked for from k down -/
noncomputable def tbR (s : Int → Int) (a : Int) : Nat → Int → Int
  | 0, k => k + 1
  | f + 1, k => if k < a then k + 1 else @ite _ (bl (s k)) (Classical.propDecidable _) (tbR s a f (k - 1)) (k + 1)
/-- the levels of a row, its end with the base -/
noncomputable def oLv (s lv : Int → Int) (base a t : Int) : Int → Int := fun j => if tbR s a 140 (t - 1) ≤ j ∧ j < t then base else lv j
def mxR (lv : Int → Int) : Nat → Int → Int → Int
  | 0, _, x => x
  | f + 1, k, x => mxR lv f (k + 1) (if x ≤ lv k then lv k else x)
noncomputable def oSc (s lv : Int → Int) (base a t : Int) : Int → Int := orR (oLv s lv base a t) a t (mxR (oLv s lv base a t) (t - a).toNat a 0).toNat (fun k => k)
def coR (wi sc : Int → Int) : Nat → Int → Int → (Int → Int) → (Int → Int)
  | 0, _, _, g => g
  | f + 1, k, x, g => coR wi sc f (k + 1) (x + wi (sc k)) (ipd g (sc k) x)
noncomputable def oCo (s lv wi : Int → Int) (base a t c : Int) : Int → Int := coR wi (oSc s lv base a t) (t - a).toNat a c (fun _ => 0)
/-- a row's order: each of its clusters stands somewhere in it -/
def isO (a t : Int) (sc : Int → Int) : Prop := (∀ k, a ≤ k → k < t → a ≤ sc k ∧ sc k < t) ∧ ∀ j, a ≤ j → j < t → ∃ k, a ≤ k ∧ k < t ∧ sc k = j
theorem trn_isO {a t : Int} : ∀ (f : Nat) (sc : Int → Int) (x y : Int), a ≤ x → y < t → isO a t sc → isO a t (trn f sc x y)
  | 0, _, _, _, _, _, h => h
  | f + 1, sc, x, y, hx, hy, h => by
    unfold trn
    split
    · exact h
    · rename_i c
      refine trn_isO f _ (x + 1) (y - 1) (by omega) (by omega) ⟨fun k h1 h2 => ?_, fun j h1 h2 => ?_⟩
      · dsimp only
        split
        · exact h.1 x hx (by omega)
        · split
          · exact h.1 y (by omega) hy
          · exact h.1 k h1 h2
      · obtain ⟨k, k1, k2, k3⟩ := h.2 j h1 h2
        by_cases e1 : k = x
        · refine ⟨y, by omega, hy, ?_⟩
          dsimp only
          rw [if_pos rfl, ← e1]
          exact k3
        · by_cases e2 : k = y
          · refine ⟨x, hx, by omega, ?_⟩
            dsimp only
            rw [if_neg (by omega), if_pos rfl, ← e2]
            exact k3
          · refine ⟨k, k1, k2, ?_⟩
            dsimp only
            rw [if_neg e2, if_neg e1]
            exact k3
/-- what lies outside stays -/
theorem trn_out {a t : Int} : ∀ (f : Nat) (sc : Int → Int) (x y : Int), a ≤ x → y < t → ∀ j, (j < a ∨ t ≤ j) → trn f sc x y j = sc j
  | 0, _, _, _, _, _, _, _ => rfl
  | f + 1, sc, x, y, hx, hy, j, hj => by
    unfold trn
    split
    · rfl
    · rename_i c
      rw [trn_out f _ (x + 1) (y - 1) (by omega) (by omega) j hj, if_neg (by omega), if_neg (by omega)]
theorem enR_in {lv sc : Int → Int} {l t : Int} : ∀ (f : Nat) (e : Int), e ≤ enR lv sc l t f e ∧ (e ≤ t → enR lv sc l t f e ≤ t)
  | 0, e => ⟨Int.le_refl _, fun h => h⟩
  | f + 1, e => by
    have := enR_in (lv := lv) (sc := sc) (l := l) (t := t) f (e + 1)
    unfold enR
    split
    · exact ⟨Int.le_refl _, fun h => h⟩
    · split
      · exact ⟨Int.le_refl _, fun h => h⟩
      · exact ⟨by omega, fun h => by omega⟩
theorem psR_isO {lv : Int → Int} {l a t : Int} : ∀ (f : Nat) (sc : Int → Int) (k : Int), a ≤ k → isO a t sc → isO a t (psR lv l t f sc k)
  | 0, _, _, _, h => h
  | f + 1, sc, k, hk, h => by
    have e := enR_in (lv := lv) (sc := sc) (l := l) (t := t) 140 k
    unfold psR
    split
    · exact h
    · exact psR_isO f _ _ (by omega) (trn_isO 140 sc k _ hk (by omega) h)
theorem orR_isO {lv : Int → Int} {a t : Int} : ∀ (l : Nat) (sc : Int → Int), isO a t sc → isO a t (orR lv a t l sc)
  | 0, _, h => h
  | l + 1, sc, h => orR_isO l _ (psR_isO 140 sc a (Int.le_refl _) h)
theorem oSc_isO {s lv : Int → Int} {base a t : Int} : isO a t (oSc s lv base a t) := orR_isO _ _ ⟨fun k h1 h2 => ⟨h1, h2⟩, fun j h1 h2 => ⟨j, h1, h2, rfl⟩⟩
theorem tbR_in {s : Int → Int} {a : Int} : ∀ (f : Nat) (k : Int), a ≤ k + 1 → a ≤ tbR s a f k ∧ tbR s a f k ≤ k + 1
  | 0, k, h => ⟨h, Int.le_refl _⟩
  | f + 1, k, h => by
    unfold tbR
    split
    · omega
    · split
      · have := tbR_in (s := s) (a := a) f (k - 1) (by omega)
        omega
      · omega
/-- the columns of a row don't depend on what stood there -/
theorem coR_eq {wi sc : Int → Int} {j : Int} : ∀ (f : Nat) (k x : Int) (g g2 : Int → Int), (g j = g2 j ∨ ∃ i, k ≤ i ∧ i < k + f ∧ sc i = j) → coR wi sc f k x g j = coR wi sc f k x g2 j
  | 0, k, x, g, g2, h => by
    rcases h with h | ⟨i, a, b, _⟩
    · exact h
    · omega
  | f + 1, k, x, g, g2, h => by
    unfold coR
    refine coR_eq f (k + 1) (x + wi (sc k)) _ _ ?_
    unfold ipd
    by_cases e : j = sc k
    · left; rw [if_pos e, if_pos e]
    · rw [if_neg e, if_neg e]
      rcases h with h | ⟨i, a, b, c⟩
      · exact Or.inl h
      · have : i ≠ k := fun z => e (by rw [← c, z])
        exact Or.inr ⟨i, by omega, by omega, c⟩
theorem trn_ag {a t : Int} : ∀ (f : Nat) (u v : Int → Int) (x y : Int), a ≤ x → y < t → (∀ j, a ≤ j → j < t → u j = v j) → ∀ j, a ≤ j → j < t → trn f u x y j = trn f v x y j
  | 0, _, _, _, _, _, _, h => h
  | f + 1, u, v, x, y, hx, hy, h => by
    unfold trn
    by_cases c : y ≤ x
    · rw [if_pos c, if_pos c]; exact h
    · rw [if_neg c, if_neg c]
      refine trn_ag f _ _ (x + 1) (y - 1) (by omega) (by omega) (fun j h1 h2 => ?_)
      rw [h x hx (by omega), h y (by omega) hy, h j h1 h2]
theorem enR_ag {lv u v : Int → Int} {l a t : Int} (h : ∀ j, a ≤ j → j < t → u j = v j) : ∀ (f : Nat) (e : Int), a ≤ e → enR lv u l t f e = enR lv v l t f e
  | 0, _, _ => rfl
  | f + 1, e, he => by
    unfold enR
    by_cases c : t ≤ e
    · rw [if_pos c, if_pos c]
    · rw [if_neg c, if_neg c, h e he (by omega), enR_ag h f (e + 1) (by omega)]
theorem psR_ag {lv : Int → Int} {l a t : Int} : ∀ (f : Nat) (u v : Int → Int) (k : Int), a ≤ k → (∀ j, a ≤ j → j < t → u j = v j) → ∀ j, a ≤ j → j < t → psR lv l t f u k j = psR lv l t f v k j
  | 0, _, _, _, _, h => h
  | f + 1, u, v, k, hk, h => by
    have e := enR_in (lv := lv) (sc := u) (l := l) (t := t) 140 k
    unfold psR
    by_cases c : t ≤ k
    · rw [if_pos c, if_pos c]; exact h
    · rw [if_neg c, if_neg c, ← enR_ag h 140 k hk]
      exact psR_ag f _ _ _ (by omega) (trn_ag 140 u v k _ hk (by omega) h)
theorem orR_ag {lv : Int → Int} {a t : Int} : ∀ (l : Nat) (u v : Int → Int), (∀ j, a ≤ j → j < t → u j = v j) → ∀ j, a ≤ j → j < t → orR lv a t l u j = orR lv a t l v j
  | 0, _, _, h => h
  | l + 1, u, v, h => orR_ag l _ _ (psR_ag 140 u v a (Int.le_refl _) h)
theorem psR_out {lv : Int → Int} {l a t : Int} : ∀ (f : Nat) (u : Int → Int) (k : Int), a ≤ k → ∀ j, (j < a ∨ t ≤ j) → psR lv l t f u k j = u j
  | 0, _, _, _, _, _ => rfl
  | f + 1, u, k, hk, j, hj => by
    have e := enR_in (lv := lv) (sc := u) (l := l) (t := t) 140 k
    unfold psR
    by_cases c : t ≤ k
    · rw [if_pos c]
    · rw [if_neg c, psR_out f _ _ (by omega) j hj]
      exact trn_out 140 u k _ hk (by omega) j hj
theorem orR_out {lv : Int → Int} {a t : Int} : ∀ (l : Nat) (u : Int → Int), ∀ j, (j < a ∨ t ≤ j) → orR lv a t l u j = u j
  | 0, _, _, _ => rfl
  | l + 1, u, j, hj => (orR_out l _ j hj).trans (psR_out 140 u a (Int.le_refl _) j hj)
theorem mxR_in {lv : Int → Int} {a t : Int} (h : ∀ j, a ≤ j → j < t → 0 ≤ lv j ∧ lv j ≤ 1000) : ∀ (f : Nat) (k x : Int), a ≤ k → k + f = t → 0 ≤ x ∧ x ≤ 1000 → 0 ≤ mxR lv f k x ∧ mxR lv f k x ≤ 1000
  | 0, _, _, _, _, hx => hx
  | f + 1, k, x, hk, hf, hx => by
    unfold mxR
    refine mxR_in h f (k + 1) _ (by omega) (by omega) ?_
    have := h k hk (by omega)
    split <;> omega
theorem coR_out {wi sc : Int → Int} {j : Int} : ∀ (f : Nat) (k x : Int) (g : Int → Int), (∀ i, k ≤ i → i < k + f → sc i ≠ j) → coR wi sc f k x g j = g j
  | 0, _, _, _, _ => rfl
  | f + 1, k, x, g, h => by
    unfold coR
    rw [coR_out f (k + 1) _ _ (fun i a b => h i (by omega) (by omega))]
    unfold ipd
    rw [if_neg (fun z => h k (Int.le_refl _) (by omega) z.symm)]

