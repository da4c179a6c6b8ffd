/-! WHAT IS ASKED OF A LINE THAT IS LAID -/
def sg (L : List Clu) (k : Int) : Int := (L.getD k.toNat (0, 0, 0, 0)).1
def mn (L : List Clu) (k : Int) : Int := (L.getD k.toNat (0, 0, 0, 0)).2.1
def bg (L : List Clu) (k : Int) : Int := (L.getD k.toNat (0, 0, 0, 0)).2.2.1
def tl (L : List Clu) (k : Int) : Int := (L.getD k.toNat (0, 0, 0, 0)).2.2.2
theorem getD_get {L : List Clu} {k : Int} (h0 : 0 ≤ k) (h : k < L.length) : L[k.toNat]? = some (L.getD k.toNat (0, 0, 0, 0)) := by
  rw [List.getD_eq_getElem?_getD, List.getElem?_eq_getElem (show k.toNat < L.length by omega)]
  rfl
theorem getD_mem {L : List Clu} {k : Int} (h0 : 0 ≤ k) (h : k < L.length) : L.getD k.toNat (0, 0, 0, 0) ∈ L := List.mem_of_getElem? (getD_get h0 h)
theorem kCl_g {h : vH} {y : Int} {L : List Clu} (c : kCl h y L) {k : Int} (h0 : 0 ≤ k) (hk : k < L.length) : h 2 (y + 1) k = sg L k ∧ h 2 (y + 2) k = mn L k ∧ h 2 (y + 3) k = bg L k ∧ h 2 (y + 4) k = tl L k := by
  have := c.2 k.toNat _ (getD_get h0 hk)
  rw [show ((k.toNat : Nat) : Int) = k by omega] at this
  exact this
/-- bounds of clusters -/
def cluB (c : Clu) : Prop := 1 ≤ c.2.1 ∧ c.2.1 ≤ 80 ∧ -1 ≤ c.2.2.1 ∧ c.2.2.1 < 80 ∧ 0 ≤ c.2.2.2 ∧ c.2.2.2 ≤ 80
theorem mVt_B {a : vH} {l lo hi : Int} (h0 : 0 ≤ lo) (h80 : hi ≤ 80) : ∀ (n : Nat) (k : Int), ∀ c ∈ mVt a l lo hi n k, cluB c ∧ c.2.2.1 = -1
  | 0, _, c, hc => by cases hc
  | n + 1, k, c, hc => by
    unfold mVt at hc
    rcases List.mem_append.mp hc with z | z
    · by_cases on : mVon a l lo hi k
      · rw [if_pos on] at z
        obtain ⟨s, -, rfl⟩ := List.mem_map.mp z
        obtain ⟨-, o2, o3⟩ := on
        exact ⟨⟨show (1 : Int) ≤ 1 by decide, show (1 : Int) ≤ 80 by decide, show (-1 : Int) ≤ -1 by decide, show (-1 : Int) < 80 by decide, by show 0 ≤ a 2 299 k; omega, by show a 2 299 k ≤ 80; omega⟩, rfl⟩
      · rw [if_neg on] at z; cases z
    · exact mVt_B h0 h80 n (k + 1) c z
theorem mTx_B {a : vH} {p l : Int} (hl : 0 ≤ a 2 284 l ∧ a 2 284 l ≤ 80) : ∀ (n : Nat) (lo k : Int), 0 ≤ lo → 0 ≤ k → ∀ c ∈ mTx a p l n lo k, cluB c ∧ (c.2.2.1 = -1 ∨ k ≤ c.2.2.1)
  | n, lo, k, h0, hk, c, hc => by
    have fin : c ∈ mVt a l lo 80 (a 2 297 p).toNat (6 * p) ++ mDots a p l → cluB c ∧ (c.2.2.1 = -1 ∨ k ≤ c.2.2.1) := by
      intro hc
      rcases List.mem_append.mp hc with z | z
      · have := mVt_B h0 (Int.le_refl _) _ _ c z
        exact ⟨this.1, Or.inl this.2⟩
      · unfold mDots at z
        by_cases f : mFst a p l
        · rw [if_pos f] at z
          have e : c = (46, 1, -1, a 2 284 l) := by simpa using z
          subst e
          exact ⟨⟨show (1 : Int) ≤ 1 by decide, show (1 : Int) ≤ 80 by decide, show (-1 : Int) ≤ -1 by decide, show (-1 : Int) < 80 by decide, hl.1, hl.2⟩, Or.inl rfl⟩
        · rw [if_neg f] at z; cases z
    match n with
    | 0 => exact fin hc
    | n + 1 =>
      unfold mTx at hc
      by_cases e : a 2 284 l ≤ k
      · rw [if_pos e] at hc; exact fin hc
      · rw [if_neg e] at hc
        have g1 := mEnd_ge (a := a) (l := l) 80 (k + 1)
        have g2 := mEnd_le (a := a) (l := l) 80 (k + 1) (by omega)
        rcases List.mem_append.mp hc with z | z
        · have := mVt_B h0 (by omega) _ _ c z
          exact ⟨this.1, Or.inl this.2⟩
        · rcases List.mem_append.mp z with z | z
          · by_cases hd : mHid a p l k
            · rw [if_pos hd] at z; cases z
            · rw [if_neg hd] at z
              have e : c = (a 2 283 (80 * l + k), mEnd a l 80 (k + 1) - k, k, k) := by simpa using z
              subst e
              exact ⟨⟨by show 1 ≤ mEnd a l 80 (k + 1) - k; omega, by show mEnd a l 80 (k + 1) - k ≤ 80; omega, by show -1 ≤ k; omega, by show k < 80; omega, hk, by show k ≤ 80; omega⟩, Or.inr (Int.le_refl _)⟩
          · have := mTx_B hl n (k + 1) (mEnd a l 80 (k + 1)) (by omega) (by omega) c z
            exact ⟨this.1, this.2.imp (fun w => w) (fun w => by omega)⟩
theorem mCL_B {a : vH} {p l : Int} (hl : 0 ≤ a 2 284 l ∧ a 2 284 l ≤ 80) : ∀ c ∈ mCL a p l, cluB c := fun c hc => (mTx_B hl 81 0 0 (Int.le_refl _) (Int.le_refl _) c hc).1
/-- the edge to which one goes down from a place -/
def tkF (L : List Clu) (x : Int) : Nat → Int → Int → Int
  | 0, _, r => r
  | f + 1, k, r => tkF L x f (k + 1) (if bg L k = -1 then r else if r = -1 then (if bg L k < x then r else k) else r)
def tkN (L : List Clu) (x : Int) : Nat → Int → Int → Int
  | 0, _, r => r
  | f + 1, k, r => tkN L x f (k + 1) (if bg L k = -1 then r else if x < bg L k + mn L k then r else k)
def tkO (L : List Clu) : Nat → Int → Int → Int
  | 0, _, r => r
  | f + 1, k, r => tkO L f (k + 1) (if bg L k = -1 then r else if r = -1 then k else r)
def tkL (L : List Clu) : Nat → Int → Int → Int
  | 0, _, r => r
  | f + 1, k, r => tkL L f (k + 1) (if bg L k = -1 then r else k)
def tkC (L : List Clu) (x sd : Int) : Int := if sd = 1 then (if tkN L x L.length 0 (-1) = -1 then tkO L L.length 0 (-1) else tkN L x L.length 0 (-1)) else (if tkF L x L.length 0 (-1) = -1 then tkL L L.length 0 (-1) else tkF L x L.length 0 (-1))
def tkB (L : List Clu) (x sd : Int) : Int := if sd = 1 ∧ ¬ (tkN L x L.length 0 (-1) = -1) ∨ ¬ (sd = 1) ∧ tkF L x L.length 0 (-1) = -1 then 1 else 0
theorem tk_in {L : List Clu} {x : Int} : ∀ (f : Nat) (k r1 r2 r3 r4 : Int), 0 ≤ k → -1 ≤ r1 ∧ r1 < k + f → -1 ≤ r2 ∧ r2 < k + f → -1 ≤ r3 ∧ r3 < k + f → -1 ≤ r4 ∧ r4 < k + f → (r3 = -1 ↔ r4 = -1) → (r3 = -1 → r1 = -1 ∧ r2 = -1) → (-1 ≤ tkF L x f k r1 ∧ tkF L x f k r1 < k + f) ∧ (-1 ≤ tkN L x f k r2 ∧ tkN L x f k r2 < k + f) ∧ (-1 ≤ tkO L f k r3 ∧ tkO L f k r3 < k + f) ∧ (-1 ≤ tkL L f k r4 ∧ tkL L f k r4 < k + f) ∧ (tkO L f k r3 = -1 ↔ tkL L f k r4 = -1) ∧ (tkO L f k r3 = -1 → tkF L x f k r1 = -1 ∧ tkN L x f k r2 = -1)
  | 0, k, r1, r2, r3, r4, h0, a, b, c, d, e, g => ⟨a, b, c, d, e, g⟩
  | f + 1, k, r1, r2, r3, r4, h0, a, b, c, d, e, g => by
    have ih := tk_in (L := L) (x := x) f (k + 1) (if bg L k = -1 then r1 else if r1 = -1 then (if bg L k < x then r1 else k) else r1) (if bg L k = -1 then r2 else if x < bg L k + mn L k then r2 else k) (if bg L k = -1 then r3 else if r3 = -1 then k else r3) (if bg L k = -1 then r4 else k) (by omega) (by split <;> (try split) <;> (try split) <;> omega) (by split <;> (try split) <;> omega) (by split <;> (try split) <;> omega) (by split <;> omega) (by split <;> (try split) <;> omega) (by split <;> (try split) <;> (try split) <;> (try split) <;> omega)
    rw [show k + 1 + (f : Int) = k + ((f + 1 : Nat) : Int) by omega] at ih
    exact ih
section EDG
variable {h : vH} {y : Int} {L : List Clu}
theorem tkC_in {x sd : Int} : (tkC L x sd = -1 ∨ (0 ≤ tkC L x sd ∧ tkC L x sd < L.length)) ∧ (tkB L x sd = 0 ∨ tkB L x sd = 1) := by
  have t := tk_in (L := L) (x := x) L.length 0 (-1) (-1) (-1) (-1) (Int.le_refl _) (by omega) (by omega) (by omega) (by omega) (by omega) (by omega)
  unfold tkC tkB
  refine ⟨?_, by split <;> omega⟩
  by_cases s1 : sd = 1
  · rw [if_pos s1]
    split <;> omega
  · rw [if_neg s1]
    split <;> omega
/-- the edge, as the class numbers it -/
def tkE (L : List Clu) (x sd : Int) : Int := if tkC L x sd = -1 then -1 else 2 * tkC L x sd + tkB L x sd
theorem C_edgeAt (sL : shLayout h y) (c : kCl h y L) (h131 : L.length ≤ 131) (hB : ∀ z ∈ L, cluB z) {x sd : Int} (hs : sd = 0 ∨ sd = 1) : vcl mX3_edgeAt [(1, y), (0, x), (0, sd)] h = some (.inl (some (0, tkE L x sd)), h) := by
  have t := tk_in (L := L) (x := x) L.length 0 (-1) (-1) (-1) (-1) (Int.le_refl _) (by omega) (by omega) (by omega) (by omega) (by omega) (by omega)
  have loop : ∀ (f : Nat) (k r1 r2 r3 r4 r5 : Int) (v7 v8 : vv), r5 = (if sd = 1 then r2 else r1) → k + f = L.length → 0 ≤ k → tkF L x f k r1 = tkF L x L.length 0 (-1) → tkN L x f k r2 = tkN L x L.length 0 (-1) → tkO L f k r3 = tkO L L.length 0 (-1) → tkL L f k r4 = tkL L L.length 0 (-1) → vrun mX3_edgeAt 11 [(1, y), (0, x), (0, sd), (0, r3), (0, r4), (0, r5), (0, k), v7, v8] [] h = some (.inl (some (0, tkE L x sd)), h) := by
    intro f
    induction f with
    | zero =>
      intro k r1 r2 r3 r4 r5 v7 v8 e5 hk h0 e1 e2 e3 e4
      subst e5
      have e1 : r1 = tkF L x L.length 0 (-1) := e1
      have e2 : r2 = tkN L x L.length 0 (-1) := e2
      have e3 : r3 = tkO L L.length 0 (-1) := e3
      have e4 : r4 = tkL L L.length 0 (-1) := e4
      have c1 := c.1
      have bd : -1 ≤ (if sd = 1 then r2 else r1) ∧ (if sd = 1 then r2 else r1) < 200 := by split <;> omega
      rw [rX3_edgeAt_11 sL, if_pos (by omega)]
      · unfold tkE tkC tkB
        rw [← e1, ← e2, ← e3, ← e4]
        rw [← e1, ← e2, ← e3, ← e4] at t
        rcases hs with z | z
        · have s1 : ¬ sd = 1 := by omega
          rw [if_neg s1, if_neg s1]
          by_cases q : r3 = -1
          · rw [if_pos q, if_pos (by split <;> omega)]
          · rw [if_neg q, if_pos z]
            by_cases w : r1 = -1
            · rw [if_pos w, if_pos w, if_neg (by omega), if_pos (Or.inr ⟨s1, w⟩)]
            · rw [if_neg w, if_neg w, if_neg w, if_neg (by omega)]
              congr 5
              omega
        · have s0 : ¬ sd = 0 := by omega
          rw [if_pos z, if_pos z]
          by_cases q : r3 = -1
          · rw [if_pos q, if_pos (by split <;> omega)]
          · rw [if_neg q, if_neg s0]
            by_cases w : r2 = -1
            · rw [if_pos w, if_pos w, if_neg q, if_neg (by omega)]
              congr 5
              omega
            · rw [if_neg w, if_neg w, if_neg w, if_pos (Or.inl ⟨z, w⟩)]
      all_goals (intros; omega)
    | succ f ih =>
      intro k r1 r2 r3 r4 r5 v7 v8 e5 hk h0 e1 e2 e3 e4
      have c1 := c.1
      obtain ⟨-, g2, g3, -⟩ := kCl_g c h0 (by omega)
      have b := hB _ (getD_mem (L := L) h0 (by omega))
      have b1 : 1 ≤ mn L k ∧ mn L k ≤ 80 ∧ -1 ≤ bg L k ∧ bg L k < 80 := ⟨b.1, b.2.1, b.2.2.1, b.2.2.2.1⟩
      rw [rX3_edgeAt_11 sL, if_neg (by omega), if_neg (by omega), g2, g3]
      · refine ih (k + 1) (if bg L k = -1 then r1 else if r1 = -1 then (if bg L k < x then r1 else k) else r1) (if bg L k = -1 then r2 else if x < bg L k + mn L k then r2 else k) (if bg L k = -1 then r3 else if r3 = -1 then k else r3) (if bg L k = -1 then r4 else k) _ _ _ ?_ (by omega) (by omega) e1 e2 e3 e4
        rw [e5]
        by_cases q : bg L k = -1
        · rw [if_pos q, if_pos q, if_pos q]
        · rw [if_neg q, if_neg q, if_neg q]
          rcases hs with z | z
          · have s1 : ¬ sd = 1 := by omega
            rw [if_neg s1, if_neg s1]
            by_cases w : r1 = -1
            · rw [if_pos w]
              by_cases u : bg L k < x
              · rw [if_pos u, if_neg (by omega), if_neg (by omega)]
              · rw [if_neg u, if_pos ⟨z, w, u⟩]
            · rw [if_neg w, if_neg (by omega), if_neg (by omega)]
          · have s0 : ¬ sd = 0 := by omega
            rw [if_pos z, if_pos z, if_neg (by omega)]
            by_cases u : x < bg L k + mn L k
            · rw [if_pos u, if_neg (by omega)]
            · rw [if_neg u, if_pos ⟨z, u⟩]
      all_goals (try rw [g2])
      all_goals (try rw [g3])
      all_goals (intros; omega)
  refine rX3_edgeAt_0.trans ?_
  exact loop L.length 0 (-1) (-1) (-1) (-1) (-1) (9, 0) (9, 0) (by split <;> rfl) (by omega) (Int.le_refl _) rfl rfl rfl rfl
end EDG

