/-! the reference moves -/
def tGo (a : vH) (p l x : Int) : vH := vup (vup a 2 305 p l) 2 306 p x
def tWn (a : vH) (p v : Int) : vH := vup a 2 307 p v
noncomputable def tTop (a : vH) (p r : Int) : vH := vup (vup a 2 309 p (plR a p r)) 2 308 p (mLn a p r)
noncomputable def tLk (a : vH) (p : Int) : vH := if toR a p + fX13_marginOf a p ≤ cuR a p then (if cuR a p ≤ toR a p + a 2 310 p - 1 - fX13_marginOf a p then a else tTop a p (cuR a p - (a 2 310 p - 1 - fX13_marginOf a p))) else tTop a p (if cuR a p - fX13_marginOf a p ≤ 0 then 0 else cuR a p - fX13_marginOf a p)
noncomputable def tCh (a : vH) (p l x : Int) : vH := @ite _ (l = cuL a p ∧ x = cuX a p) (Classical.propDecidable _) a (tGo a p l x)
section MMV
variable {a b h : vH} {p l x : Int}
theorem eqA_go : eqA a (tGo a p l x) := eqA_up (eqA_up eqA_rf (by decide)) (by decide)
theorem eqA_wn {v : Int} : eqA a (tWn a p v) := eqA_up eqA_rf (by decide)
theorem eqA_top {r : Int} : eqA a (tTop a p r) := eqA_up (eqA_up eqA_rf (by decide)) (by decide)
theorem iG_go (g : iG a) (hl : 0 ≤ l ∧ l < a 1504 282 0) (hx : 0 ≤ x ∧ x ≤ a 2 284 l) : iG (tGo a p l x) := iG_a eqA_go g (fun q u v => by
  obtain ⟨-, -, -, g4, g5, -⟩ := g.2 q u v
  have t1 : tGo a p l x 2 308 q = a 2 308 q := (vup_r (by decide)).trans (vup_r (by decide))
  have t2 : tGo a p l x 2 309 q = a 2 309 q := (vup_r (by decide)).trans (vup_r (by decide))
  have c1 : tGo a p l x 2 305 q = if q = p then l else a 2 305 q := (vup_r (by decide)).trans vup_2
  have c2 : tGo a p l x 2 306 q = if q = p then x else a 2 306 q := vup_2.trans (by rw [vup_r (by decide)])
  rw [t1, t2, c1, c2]
  refine ⟨?_, g5⟩
  by_cases e : q = p
  · rw [if_pos e, if_pos e]; exact ⟨hl.1, hl.2, hx.1, hx.2⟩
  · rw [if_neg e, if_neg e]; exact g4)
theorem iG_wn {v : Int} (g : iG a) : iG (tWn a p v) := iG_a eqA_wn g (fun q u w => by
  obtain ⟨-, -, -, g4, g5, -⟩ := g.2 q u w
  have r : ∀ r i : Int, ¬ r = 307 → tWn a p v 2 r i = a 2 r i := fun r i e => vup_r e
  rw [r _ _ (by decide), r _ _ (by decide), r _ _ (by decide), r _ _ (by decide)]
  exact ⟨g4, g5⟩)
theorem iG_top (g : iG a) (hp : 0 ≤ p ∧ p < 4) {r : Int} (hr : isRw a p r) : iG (tTop a p r) := iG_a eqA_top g (fun q u v => by
  obtain ⟨-, -, -, g4, g5, -⟩ := g.2 q u v
  obtain ⟨l1, -⟩ := rw_in g.1 hp hr
  have x1 := plR_in g hp hr
  have t1 : tTop a p r 2 305 q = a 2 305 q := (vup_r (by decide)).trans (vup_r (by decide))
  have t2 : tTop a p r 2 306 q = a 2 306 q := (vup_r (by decide)).trans (vup_r (by decide))
  have c1 : tTop a p r 2 309 q = if q = p then plR a p r else a 2 309 q := (vup_r (by decide)).trans vup_2
  have c2 : tTop a p r 2 308 q = if q = p then (mLn a p r : Int) else a 2 308 q := vup_2.trans (by rw [vup_r (by decide)])
  rw [t1, t2, c1, c2]
  refine ⟨g4, ?_⟩
  by_cases e : q = p
  · rw [if_pos e, if_pos e]; exact ⟨l1.1, l1.2.1, x1.1, x1.2⟩
  · rw [if_neg e, if_neg e]; exact g5)
theorem iG_ch (g : iG a) (hl : 0 ≤ l ∧ l < a 1504 282 0) (hx : 0 ≤ x ∧ x ≤ a 2 284 l) : iG (tCh a p l x) := by
  unfold tCh
  split
  · exact g
  · exact iG_go g hl hx
/-- the margin that a pane keeps -/
theorem mgn_in (hH : 1 ≤ a 2 310 p ∧ a 2 310 p ≤ 24) (hm : 0 ≤ a 2 288 p ∧ a 2 288 p ≤ 3) : 0 ≤ fX13_marginOf a p ∧ fX13_marginOf a p ≤ 3 ∧ 2 * fX13_marginOf a p ≤ a 2 310 p - 1 := by
  unfold fX13_marginOf
  split <;> omega
theorem lk_in (g : iG a) (hp : 0 ≤ p ∧ p < 4) (hH : 1 ≤ a 2 310 p ∧ a 2 310 p ≤ 24) : (¬ (toR a p + fX13_marginOf a p ≤ cuR a p) → isRw a p (if cuR a p - fX13_marginOf a p ≤ 0 then 0 else cuR a p - fX13_marginOf a p)) ∧ (¬ (cuR a p ≤ toR a p + a 2 310 p - 1 - fX13_marginOf a p) → isRw a p (cuR a p - (a 2 310 p - 1 - fX13_marginOf a p))) := by
  have c := isRw_all.mp (cu_in g hp).2.2.2.1
  have t := isRw_all.mp (to_in g hp)
  have m := mgn_in hH (g.2 p hp.1 hp.2).2.2.2.2.2
  exact ⟨fun z => isRw_all.mpr (by split <;> omega), fun z => isRw_all.mpr (by omega)⟩
theorem iG_lk (g : iG a) (hp : 0 ≤ p ∧ p < 4) (hH : 1 ≤ a 2 310 p ∧ a 2 310 p ≤ 24) : iG (tLk a p) := by
  have q := lk_in g hp hH
  unfold tLk
  by_cases c1 : toR a p + fX13_marginOf a p ≤ cuR a p
  · rw [if_pos c1]
    by_cases c2 : cuR a p ≤ toR a p + a 2 310 p - 1 - fX13_marginOf a p
    · rw [if_pos c2]; exact g
    · rw [if_neg c2]; exact iG_top g hp (q.2 c2)
  · rw [if_neg c1]; exact iG_top g hp (q.1 c1)
/-- the visible line ahead of a line, and behind it -/
noncomputable def bsD (a : vH) (p : Int) : Nat → Int
  | 0 => -1
  | l + 1 => @ite _ (mInv a p (l : Int)) (Classical.propDecidable _) (bsD a p l) (l : Int)
noncomputable def bsU (a : vH) (p : Int) : Nat → Int → Int
  | 0, _ => -1
  | f + 1, l => @ite _ (mInv a p l) (Classical.propDecidable _) (bsU a p f (l + 1)) l
theorem bsD_in : ∀ l : Nat, bsD a p l = -1 ∨ (0 ≤ bsD a p l ∧ bsD a p l < l)
  | 0 => Or.inl rfl
  | l + 1 => by
    have ih := bsD_in l
    have e : bsD a p (l + 1) = @ite _ (mInv a p (l : Int)) (Classical.propDecidable _) (bsD a p l) (l : Int) := rfl
    rw [e]
    by_cases c : mInv a p (l : Int)
    · rw [if_pos c]; omega
    · rw [if_neg c]; omega
theorem bsU_in : ∀ (f : Nat) (l : Int), bsU a p f l = -1 ∨ (l ≤ bsU a p f l ∧ bsU a p f l < l + f)
  | 0, _ => Or.inl rfl
  | f + 1, l => by
    have ih := bsU_in f (l + 1)
    have e : bsU a p (f + 1) l = @ite _ (mInv a p l) (Classical.propDecidable _) (bsU a p f (l + 1)) l := rfl
    rw [e]
    by_cases c : mInv a p l
    · rw [if_pos c]; omega
    · rw [if_neg c]; omega
end MMV

