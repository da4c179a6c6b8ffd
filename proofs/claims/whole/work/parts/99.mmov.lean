/-! the reference moves -/
theorem shM_307 {h : vH} (s : shModel h) : h 0 307 0 = 1 ∧ h 1 307 0 = 4 := ⟨s.2.2.2.2.2.2.2.2.2.2.2.2.2.2.2.2.2.2.2.2.2.2.2.2.2.2.2.2.2.2.2.2.2.2.2.2.2.2.2.2.2.2.2.2.2.2.2.2.2.2.2.2.2.2.2.2.2.2.2.2.2.2.2.2.2.2.2.2.2.2.2.2.2.2.1, s.2.2.2.2.2.2.2.2.2.2.2.2.2.2.2.2.2.2.2.2.2.2.2.2.2.2.2.2.2.2.2.2.2.2.2.2.2.2.2.2.2.2.2.2.2.2.2.2.2.2.2.2.2.2.2.2.2.2.2.2.2.2.2.2.2.2.2.2.2.2.2.2.2.2.2.1⟩
theorem shM_308 {h : vH} (s : shModel h) : h 0 308 0 = 1 ∧ h 1 308 0 = 4 := ⟨s.2.2.2.2.2.2.2.2.2.2.2.2.2.2.2.2.2.2.2.2.2.2.2.2.2.2.2.2.2.2.2.2.2.2.2.2.2.2.2.2.2.2.2.2.2.2.2.2.2.2.2.2.2.2.2.2.2.2.2.2.2.2.2.2.2.2.2.2.2.2.2.2.2.2.2.2.2.1, s.2.2.2.2.2.2.2.2.2.2.2.2.2.2.2.2.2.2.2.2.2.2.2.2.2.2.2.2.2.2.2.2.2.2.2.2.2.2.2.2.2.2.2.2.2.2.2.2.2.2.2.2.2.2.2.2.2.2.2.2.2.2.2.2.2.2.2.2.2.2.2.2.2.2.2.2.2.2.1⟩
theorem shM_309 {h : vH} (s : shModel h) : h 0 309 0 = 1 ∧ h 1 309 0 = 4 := ⟨s.2.2.2.2.2.2.2.2.2.2.2.2.2.2.2.2.2.2.2.2.2.2.2.2.2.2.2.2.2.2.2.2.2.2.2.2.2.2.2.2.2.2.2.2.2.2.2.2.2.2.2.2.2.2.2.2.2.2.2.2.2.2.2.2.2.2.2.2.2.2.2.2.2.2.2.2.2.2.2.2.1, s.2.2.2.2.2.2.2.2.2.2.2.2.2.2.2.2.2.2.2.2.2.2.2.2.2.2.2.2.2.2.2.2.2.2.2.2.2.2.2.2.2.2.2.2.2.2.2.2.2.2.2.2.2.2.2.2.2.2.2.2.2.2.2.2.2.2.2.2.2.2.2.2.2.2.2.2.2.2.2.2.2.1⟩
def tGo (a : vH) (p l x : Int) : vH := vup (vup a 2 305 p l) 2 306 p x
def tWn (a : vH) (p v : Int) : vH := vup a 2 307 p v
noncomputable def tTop (a : vH) (p r : Int) : vH := vup (vup a 2 309 p (plR a p r)) 2 308 p (mLn a p r)
noncomputable def tLk (a : vH) (p : Int) : vH := if toR a p + fX13_marginOf a p ≤ cuR a p then (if cuR a p ≤ toR a p + a 2 310 p - 1 - fX13_marginOf a p then a else tTop a p (cuR a p - (a 2 310 p - 1 - fX13_marginOf a p))) else tTop a p (if cuR a p - fX13_marginOf a p ≤ 0 then 0 else cuR a p - fX13_marginOf a p)
noncomputable def tCh (a : vH) (p l x : Int) : vH := @ite _ (l = cuL a p ∧ x = cuX a p) (Classical.propDecidable _) a (tGo a p l x)
theorem b2i_nz {P : Prop} : (if ¬ (b2i P = 0) then (1 : Int) else 0) = b2i P := by
  by_cases h : P
  · rw [b2i_t h]; rfl
  · rw [b2i_f h]; rfl
section MMV
variable {a b h : vH} {p l x : Int}
theorem eqA_go : eqA a (tGo a p l x) := eqA_up (eqA_up eqA_rf (by decide)) (by decide)
theorem eqA_wn {v : Int} : eqA a (tWn a p v) := eqA_up eqA_rf (by decide)
theorem eqA_top {r : Int} : eqA a (tTop a p r) := eqA_up (eqA_up eqA_rf (by decide)) (by decide)
theorem eqA_ch : eqA a (tCh a p l x) := by
  unfold tCh
  split
  · exact eqA_rf
  · exact eqA_go
theorem eqA_lk : eqA a (tLk a p) := by
  unfold tLk
  split
  · split
    · exact eqA_rf
    · exact eqA_top
  · exact eqA_top
theorem iG_go (g : iG a) (hl : 0 ≤ l ∧ l < a 1504 282 0) (hx : 0 ≤ x ∧ x ≤ a 2 284 l) : iG (tGo a p l x) := iG_a eqA_go g (fun q u v => by
  obtain ⟨-, -, -, g4, g5, -⟩ := g.2 q u v
  have t1 : tGo a p l x 2 308 q = a 2 308 q := (vup_r (by decide)).trans (vup_r (by decide))
  have t2 : tGo a p l x 2 309 q = a 2 309 q := (vup_r (by decide)).trans (vup_r (by decide))
  have c1 : tGo a p l x 2 305 q = if q = p then l else a 2 305 q := (vup_r (by decide)).trans vup_2
  have c2 : tGo a p l x 2 306 q = if q = p then x else a 2 306 q := vup_2.trans (by rw [vup_r (by decide)])
  rw [t1, t2, c1, c2]
  refine ⟨?_, g5⟩
  by_cases e : q = p
  · rw [if_pos e, if_pos e]; exact ⟨hl.1, hl.2, hx.1, hx.2⟩
  · rw [if_neg e, if_neg e]; exact g4)
theorem iG_wn {v : Int} (g : iG a) : iG (tWn a p v) := iG_a eqA_wn g (fun q u w => by
  obtain ⟨-, -, -, g4, g5, -⟩ := g.2 q u w
  have r : ∀ r i : Int, ¬ r = 307 → tWn a p v 2 r i = a 2 r i := fun r i e => vup_r e
  rw [r _ _ (by decide), r _ _ (by decide), r _ _ (by decide), r _ _ (by decide)]
  exact ⟨g4, g5⟩)
theorem iG_top (g : iG a) (hp : 0 ≤ p ∧ p < 4) {r : Int} (hr : isRw a p r) : iG (tTop a p r) := iG_a eqA_top g (fun q u v => by
  obtain ⟨-, -, -, g4, g5, -⟩ := g.2 q u v
  obtain ⟨l1, -⟩ := rw_in g.1 hp hr
  have x1 := plR_in g hp hr
  have t1 : tTop a p r 2 305 q = a 2 305 q := (vup_r (by decide)).trans (vup_r (by decide))
  have t2 : tTop a p r 2 306 q = a 2 306 q := (vup_r (by decide)).trans (vup_r (by decide))
  have c1 : tTop a p r 2 309 q = if q = p then plR a p r else a 2 309 q := (vup_r (by decide)).trans vup_2
  have c2 : tTop a p r 2 308 q = if q = p then (mLn a p r : Int) else a 2 308 q := vup_2.trans (by rw [vup_r (by decide)])
  rw [t1, t2, c1, c2]
  refine ⟨g4, ?_⟩
  by_cases e : q = p
  · rw [if_pos e, if_pos e]; exact ⟨l1.1, l1.2.1, x1.1, x1.2⟩
  · rw [if_neg e, if_neg e]; exact g5)
theorem iG_ch (g : iG a) (hl : 0 ≤ l ∧ l < a 1504 282 0) (hx : 0 ≤ x ∧ x ≤ a 2 284 l) : iG (tCh a p l x) := by
  unfold tCh
  split
  · exact g
  · exact iG_go g hl hx
/-- the margin that a pane keeps -/
theorem mgn_in (hH : 1 ≤ a 2 310 p ∧ a 2 310 p ≤ 24) (hm : 0 ≤ a 2 288 p ∧ a 2 288 p ≤ 3) : 0 ≤ fX13_marginOf a p ∧ fX13_marginOf a p ≤ 3 ∧ 2 * fX13_marginOf a p ≤ a 2 310 p - 1 := by
  unfold fX13_marginOf
  split <;> omega
theorem lk_in (g : iG a) (hp : 0 ≤ p ∧ p < 4) (hH : 1 ≤ a 2 310 p ∧ a 2 310 p ≤ 24) : (¬ (toR a p + fX13_marginOf a p ≤ cuR a p) → isRw a p (if cuR a p - fX13_marginOf a p ≤ 0 then 0 else cuR a p - fX13_marginOf a p)) ∧ (¬ (cuR a p ≤ toR a p + a 2 310 p - 1 - fX13_marginOf a p) → isRw a p (cuR a p - (a 2 310 p - 1 - fX13_marginOf a p))) := by
  have c := isRw_all.mp (cu_in g hp).2.2.2.1
  have t := isRw_all.mp (to_in g hp)
  have m := mgn_in hH (g.2 p hp.1 hp.2).2.2.2.2.2
  exact ⟨fun z => isRw_all.mpr (by split <;> omega), fun z => isRw_all.mpr (by omega)⟩
theorem iG_lk (g : iG a) (hp : 0 ≤ p ∧ p < 4) (hH : 1 ≤ a 2 310 p ∧ a 2 310 p ≤ 24) : iG (tLk a p) := by
  have q := lk_in g hp hH
  unfold tLk
  by_cases c1 : toR a p + fX13_marginOf a p ≤ cuR a p
  · rw [if_pos c1]
    by_cases c2 : cuR a p ≤ toR a p + a 2 310 p - 1 - fX13_marginOf a p
    · rw [if_pos c2]; exact g
    · rw [if_neg c2]; exact iG_top g hp (q.2 c2)
  · rw [if_neg c1]; exact iG_top g hp (q.1 c1)
theorem mF_go {A : List Int} {K : List Nat} (z : mF A K a b) : mF A K (tGo a p l x) (tGo b p l x) := mF_vv (mF_vv z)
theorem mF_top {r : Int} (z : mF sA sT a b) : mF sA sT (tTop a p r) (tTop b p r) := by
  have y := (eqA_sT z).1
  unfold tTop
  rw [plR_eq y, mLn_eq y]
  exact mF_vv (mF_vv z)
theorem mgn_eq (z : mF sA sT a b) : fX13_marginOf b p = fX13_marginOf a p := by
  unfold fX13_marginOf
  rw [z 2 310 _ (by simp) (by simp), z 2 288 _ (by simp) (by simp)]
theorem mF_lk (z : mF sA sT a b) : mF sA sT (tLk a p) (tLk b p) := by
  have y := (eqA_sT z).1
  unfold tLk
  rw [toR_eq y (eqT_sT z), cuR_eq y (eqC_sT z), mgn_eq z, z 2 310 p (by simp) (by simp)]
  split
  · split
    · exact z
    · exact mF_top z
  · exact mF_top z
theorem mF_ch (z : mF sA sT a b) : mF sA sT (tCh a p l x) (tCh b p l x) := by
  have y := (eqA_sT z).1
  unfold tCh
  rw [cuL_eq y (eqC_sT z), cuX_eq y (eqC_sT z)]
  split
  · exact z
  · exact mF_go z
theorem M_tops (g : mG h) (hp : 0 ≤ p ∧ p < 4) {r : Int} (hr : isRw h p r) : ∃ h2, vcl mX13_tops [(1, 282), (0, p), (0, r)] h = some (.inl none, h2) ∧ mF sA sK (tTop h p r) h2 := by
  obtain ⟨l1, j1, j2, v, r7⟩ := rw_in g hp hr
  obtain ⟨h1, a1, a2⟩ := M_plR g hp hr
  have g1 := mG_sc a2 g
  have x1 : eqA h (vup h1 2 309 p (plR h p r)) := eqA_up (eqA_sc a2) (by decide)
  have g1' := mG_a x1 g
  obtain ⟨h2, b1, b2⟩ := M_lineOf g1' hp ((isRw_eq x1).mpr hr) (by omega)
  rw [mLn_eq x1.1] at b1
  have g2 := mG_sc b2 g1'
  have s1 := shM_309 g1.1
  have s2 := shM_308 g2.1
  refine ⟨_, ?_, mF_vv (mF_tr (mF_vv a2) b2)⟩
  refine (rX13_tops_0 g.1).trans ((vret_v a1).trans ?_)
  refine (rX13_tops_11 s1.1 hp.1 (by omega) g1.1).trans ((vret_v b1).trans ?_)
  exact rX13_tops_23 s2.1 hp.1 (by omega)
theorem M_looks (g : iG h) (hp : 0 ≤ p ∧ p < 4) (hH : 1 ≤ h 2 310 p ∧ h 2 310 p ≤ 24) : ∃ h2, vcl mX13_looks [(1, 282), (0, p)] h = some (.inl none, h2) ∧ mF sA sK (tLk h p) h2 := by
  obtain ⟨h1, a1, a2⟩ := M_rowNow g hp
  have g1 := iG_sc a2 g
  obtain ⟨h2, b1, b2⟩ := M_topRow g1 hp
  rw [toR_eq (eqA_sc a2).1 (eqT_sT (sT_of a2))] at b1
  have f2 := mF_tr a2 b2
  have g2 := iG_sc f2 g
  have eH : h2 2 310 p = h 2 310 p := f2 _ _ _ (by simp) (by simp)
  have eM : fX13_marginOf h2 p = fX13_marginOf h p := mgn_eq (sT_of f2)
  have m := mgn_in hH (g.2 p hp.1 hp.2).2.2.2.2.2
  have c := rw_in g.1 hp (cu_in g hp).2.2.2.1
  have t := rw_in g.1 hp (to_in g hp)
  have c0 := (cu_in g hp).2.2.2.1.1
  have t0 := (to_in g hp).1
  have q := lk_in g hp hH
  have base : vcl mX13_looks [(1, 282), (0, p)] h = _ := (rX13_looks_0 g.1.1).trans ((vret_v a1).trans ((rX13_looks_5 g1.1.1).trans ((vret_v b1).trans (rX13_looks_11 g2.1.1 hp.1 hp.2 (by omega) (by omega) (by omega) (by omega) (by omega) (by omega) (by omega) (by omega) (by omega) (by omega) (by omega) (by omega) (by omega) (by omega) (by omega) (by omega)))))
  rw [eH, eM] at base
  have y2 := eqA_sc f2
  unfold tLk
  by_cases c1 : toR h p + fX13_marginOf h p ≤ cuR h p
  · rw [if_pos c1]
    rw [if_pos c1] at base
    by_cases c2 : cuR h p ≤ toR h p + h 2 310 p - 1 - fX13_marginOf h p
    · rw [if_pos c2]
      rw [if_pos c2] at base
      exact ⟨h2, base, f2⟩
    · rw [if_neg c2]
      rw [if_neg c2] at base
      obtain ⟨h3, d1, d2⟩ := M_tops g2.1 hp ((isRw_eq y2).mpr (q.2 c2))
      refine ⟨h3, base.trans ((vret_n d1).trans rX13_looks_78), mF_tr ?_ d2⟩
      unfold tTop
      rw [plR_eq y2.1, mLn_eq y2.1]
      exact mF_vv (mF_vv f2)
  · rw [if_neg c1]
    rw [if_neg c1] at base
    obtain ⟨h3, d1, d2⟩ := M_tops g2.1 hp ((isRw_eq y2).mpr (q.1 c1))
    refine ⟨h3, base.trans ((vret_n d1).trans rX13_looks_40), mF_tr ?_ d2⟩
    unfold tTop
    rw [plR_eq y2.1, mLn_eq y2.1]
    exact mF_vv (mF_vv f2)
theorem M_goesTo (g : mG h) (hp : 0 ≤ p ∧ p < 4) : vcl mX13_goesTo [(1, 282), (0, p), (0, l), (0, x)] h = some (.inl none, tGo h p l x) := rX13_goesTo_0 g.1 hp.1 hp.2
theorem M_changes (g : iG h) (hp : 0 ≤ p ∧ p < 4) : vcl mX13_changes [(1, 282), (0, p), (0, l), (0, x)] h = some (.inl (some (0, b2i (¬ (l = cuL h p ∧ x = cuX h p)))), tCh h p l x) := by
  refine (rX13_changes_0 g.1.1).trans ((vret_v (M_lineNow g hp)).trans ?_)
  refine (rX13_changes_6 g.1.1).trans ?_
  unfold tCh
  by_cases c : l = cuL h p
  · rw [if_pos c]
    refine (vret_v (M_placeNow g hp)).trans ((rX13_changes_15 g.1.1).trans ?_)
    by_cases d : x = cuX h p
    · rw [if_neg (fun z => z d), if_neg (fun z => z d), if_pos ⟨c, d⟩, b2i_f (fun z => z ⟨c, d⟩)]
    · rw [if_pos d, if_pos d, if_neg (fun z => d z.2), b2i_t (fun z => d z.2)]
      exact (vret_n (M_goesTo g.1 hp)).trans (rX13_changes_37 (Or.inr rfl))
  · rw [if_neg c, if_neg (fun z => c z.1), b2i_t (fun z => c z.1)]
    exact (vret_n (M_goesTo g.1 hp)).trans (rX13_changes_37 (Or.inr rfl))
theorem ch_0 : tCh a p (cuL a p) (cuX a p) = a := if_pos ⟨rfl, rfl⟩
/-- the visible line ahead of a line, and behind it -/
noncomputable def bsD (a : vH) (p : Int) : Nat → Int
  | 0 => -1
  | l + 1 => @ite _ (mInv a p (l : Int)) (Classical.propDecidable _) (bsD a p l) (l : Int)
noncomputable def bsU (a : vH) (p : Int) : Nat → Int → Int
  | 0, _ => -1
  | f + 1, l => @ite _ (mInv a p l) (Classical.propDecidable _) (bsU a p f (l + 1)) l
theorem bsD_in : ∀ l : Nat, bsD a p l = -1 ∨ (0 ≤ bsD a p l ∧ bsD a p l < l)
  | 0 => Or.inl rfl
  | l + 1 => by
    have ih := bsD_in l
    have e : bsD a p (l + 1) = @ite _ (mInv a p (l : Int)) (Classical.propDecidable _) (bsD a p l) (l : Int) := rfl
    rw [e]
    by_cases c : mInv a p (l : Int)
    · rw [if_pos c]; omega
    · rw [if_neg c]; omega
theorem bsU_in : ∀ (f : Nat) (l : Int), bsU a p f l = -1 ∨ (l ≤ bsU a p f l ∧ bsU a p f l < l + f)
  | 0, _ => Or.inl rfl
  | f + 1, l => by
    have ih := bsU_in f (l + 1)
    have e : bsU a p (f + 1) l = @ite _ (mInv a p l) (Classical.propDecidable _) (bsU a p f (l + 1)) l := rfl
    rw [e]
    by_cases c : mInv a p l
    · rw [if_pos c]; omega
    · rw [if_neg c]; omega
theorem bsD_eq (y : pR a b) : ∀ l : Nat, bsD b p l = bsD a p l
  | 0 => rfl
  | l + 1 => by
    have ih := bsD_eq y l
    have e : ∀ a : vH, bsD a p (l + 1) = @ite _ (mInv a p (l : Int)) (Classical.propDecidable _) (bsD a p l) (l : Int) := fun _ => rfl
    rw [e, e, mInv_eq y, ih]
theorem bsU_eq (y : pR a b) : ∀ (f : Nat) (l : Int), bsU b p f l = bsU a p f l
  | 0, _ => rfl
  | f + 1, l => by
    have ih := bsU_eq y f (l + 1)
    have e : ∀ a : vH, bsU a p (f + 1) l = @ite _ (mInv a p l) (Classical.propDecidable _) (bsU a p f (l + 1)) l := fun _ => rfl
    rw [e, e, mInv_eq y, ih]
theorem isL_t (hl : 0 ≤ l ∧ l < h 1504 282 0) : fX13_isLine h l = 1 := by
  unfold fX13_isLine
  exact if_pos (by omega)
theorem isL_f (hl : ¬ (0 ≤ l ∧ l < h 1504 282 0)) : fX13_isLine h l = 0 := by
  unfold fX13_isLine
  exact if_neg (by omega)
theorem M_besideD (g : mG h) (hp : 0 ≤ p ∧ p < 4) (hl : 0 ≤ l ∧ l < h 1504 282 0) : vcl mX13_beside [(1, 282), (0, p), (0, l), (0, -1)] h = some (.inl (some (0, bsD h p l.toNat)), h) := by
  have gl := g.2.1
  have loop : ∀ (k : Nat), (k : Int) ≤ l → vrun mX13_beside 5 [(1, 282), (0, p), (0, l), (0, -1), (0, (k : Int) + -1)] [] h = some (.inl (some (0, bsD h p k)), h) := by
    intro k
    induction k with
    | zero =>
      intro _
      refine (rX13_beside_5 g.1 (by omega) (by omega)).trans ?_
      rw [isL_f (by omega), if_pos rfl, if_pos rfl]
      rfl
    | succ k ih =>
      intro hk
      have e : bsD h p (k + 1) = @ite _ (mInv h p (k : Int)) (Classical.propDecidable _) (bsD h p k) (k : Int) := rfl
      rw [show ((k + 1 : Nat) : Int) + -1 = (k : Int) by omega]
      refine (rX13_beside_5 g.1 (by omega) (by omega)).trans ?_
      rw [isL_t (l := (k : Int)) (by omega), if_neg (by decide)]
      refine (vret_v (M_invis g hp)).trans ((rX13_beside_21 g.1 (by omega) (by omega) (by omega) (by omega)).trans ?_)
      rw [e]
      by_cases c : mInv h p (k : Int)
      · rw [b2i_t c, if_neg (by decide), if_pos c]; exact ih (by omega)
      · rw [b2i_f c, if_pos rfl, if_neg c, isL_t (l := (k : Int)) (by omega), if_neg (by decide)]
  have := loop l.toNat (by omega)
  rw [show ((l.toNat : Nat) : Int) = l by omega] at this
  exact (rX13_beside_0 (by omega) (by omega)).trans this
theorem M_besideU (g : mG h) (hp : 0 ≤ p ∧ p < 4) (hl : 0 ≤ l ∧ l < h 1504 282 0) : vcl mX13_beside [(1, 282), (0, p), (0, l), (0, 1)] h = some (.inl (some (0, bsU h p (h 1504 282 0 - (l + 1)).toNat (l + 1))), h) := by
  have gl := g.2.1
  have loop : ∀ (f : Nat) (k : Int), k + f = h 1504 282 0 → 0 ≤ k → vrun mX13_beside 5 [(1, 282), (0, p), (0, l), (0, 1), (0, k)] [] h = some (.inl (some (0, bsU h p f k)), h) := by
    intro f
    induction f with
    | zero =>
      intro k hk h0
      refine (rX13_beside_5 g.1 (by omega) (by omega)).trans ?_
      rw [isL_f (by omega), if_pos rfl, if_pos rfl]
      rfl
    | succ f ih =>
      intro k hk h0
      have e : bsU h p (f + 1) k = @ite _ (mInv h p k) (Classical.propDecidable _) (bsU h p f (k + 1)) k := rfl
      refine (rX13_beside_5 g.1 (by omega) (by omega)).trans ?_
      rw [isL_t (l := k) (by omega), if_neg (by decide)]
      refine (vret_v (M_invis g hp)).trans ((rX13_beside_21 g.1 (by omega) (by omega) (by omega) (by omega)).trans ?_)
      rw [e]
      by_cases c : mInv h p k
      · rw [b2i_t c, if_neg (by decide), if_pos c]; exact ih (k + 1) (by omega) (by omega)
      · rw [b2i_f c, if_pos rfl, if_neg c, isL_t (l := k) (by omega), if_neg (by decide)]
  exact (rX13_beside_0 (by omega) (by omega)).trans (loop _ _ (by omega) (by omega))
theorem M_fC (g : mG h) (hp : 0 ≤ p ∧ p < 4) (hl : 0 ≤ l ∧ l < 60) : ∃ h1, vcl mX13_findsClusters [(1, 282), (0, p), (0, l)] h = some (.inl none, h1) ∧ mCl h1 (mCL h p l) ∧ mF sA sK h h1 ∧ (mCL h p l).length ≤ 131 := by
  obtain ⟨h1, a1, a2, a3, a4⟩ := M_finds (p := p) (l := l) g.1 hp hl (g.2.2.2 p hp.1 hp.2).1 (g.2.2.1 l hl.1 hl.2)
  exact ⟨h1, a1, a2, mF_le a3 (by decide) (by decide), a4⟩
theorem M_shownAhead (g : iG h) (hp : 0 ≤ p ∧ p < 4) (hl : 0 ≤ l ∧ l < 60) (hx : 0 ≤ x ∧ x ≤ h 2 284 l) : ∃ h2, vcl mX13_shownAhead [(1, 282), (0, p), (0, l), (0, x)] h = some (.inl (some (0, saF (mCL h p l) x (mCL h p l).length 0 (-1))), h2) ∧ mF sA sK h h2 := by
  obtain ⟨h1, a1, a2, a3, a4⟩ := M_fC g.1 hp hl
  have g1 := mG_sc a3 g.1
  have len : h1 2 284 l = h 2 284 l := (eqA_sc a3).1 _ _ (by decide) (by decide)
  have c1 := a2.1
  refine ⟨h1, ?_, a3⟩
  have loop : ∀ (f : Nat) (k r : Int), k + f = (mCL h p l).length → 0 ≤ k → -1 ≤ r → vrun mX13_shownAhead 31 [(1, 282), (0, p), (0, l), (0, x), (0, r), (0, k)] [] h1 = some (.inl (some (0, saF (mCL h p l) x f k r)), h1) := by
    intro f
    induction f with
    | zero =>
      intro k r hk h0 hr
      refine (rX13_shownAhead_31 g1.1 (by omega) (by omega)).trans ?_
      rw [if_pos (by omega)]
      rfl
    | succ f ih =>
      intro k r hk h0 hr
      have gg := (mCl_g a2 (k := k) h0 (by omega)).2.2.1
      have b1 := (mCL_c g hp hl (k := k) h0 (by omega)).1
      have e : saF (mCL h p l) x (f + 1) k r = saF (mCL h p l) x f (k + 1) (if x ≤ bg (mCL h p l) k then r else max r (bg (mCL h p l) k)) := rfl
      refine (rX13_shownAhead_31 g1.1 (by omega) (by omega)).trans ?_
      rw [if_neg (by omega), gg, e]
      have ee : (if bg (mCL h p l) k = -1 then r else (if x ≤ bg (mCL h p l) k then r else (if bg (mCL h p l) k ≤ r then r else bg (mCL h p l) k))) = (if x ≤ bg (mCL h p l) k then r else max r (bg (mCL h p l) k)) := by
        split <;> split <;> (try split) <;> omega
      rw [ee]
      exact ih (k + 1) _ (by omega) (by omega) (by split <;> omega)
  refine (rX13_shownAhead_0 g.1.1).trans ((vret_n a1).trans ?_)
  refine (rX13_shownAhead_6 g1.1 hl.1 hl.2).trans ?_
  rw [if_pos (by omega)]
  exact loop _ 0 (-1) (by omega) (Int.le_refl _) (Int.le_refl _)
theorem M_shownBehind (g : iG h) (hp : 0 ≤ p ∧ p < 4) (hl : 0 ≤ l ∧ l < 60) (hx : -1 ≤ x) : ∃ h2, vcl mX13_shownBehind [(1, 282), (0, p), (0, l), (0, x)] h = some (.inl (some (0, sbF (mCL h p l) x (if h 2 284 l ≤ x then -1 else h 2 284 l) (mCL h p l).length 0)), h2) ∧ mF sA sK h h2 := by
  obtain ⟨h1, a1, a2, a3, a4⟩ := M_fC g.1 hp hl
  have g1 := mG_sc a3 g.1
  have len : h1 2 284 l = h 2 284 l := (eqA_sc a3).1 _ _ (by decide) (by decide)
  have c1 := a2.1
  refine ⟨h1, ?_, a3⟩
  generalize hz : (if h 2 284 l ≤ x then -1 else h 2 284 l) = z
  have loop : ∀ (m : Nat), m ≤ (mCL h p l).length → vrun mX13_shownBehind 36 [(1, 282), (0, p), (0, l), (0, x), (0, sbF (mCL h p l) x z ((mCL h p l).length - m) m), (0, (m : Int) - 1)] [] h1 = some (.inl (some (0, sbF (mCL h p l) x z (mCL h p l).length 0)), h1) := by
    intro m
    induction m with
    | zero =>
      intro _
      refine (rX13_shownBehind_36 g1.1 (by omega)).trans ?_
      rw [if_pos (by omega)]
      rfl
    | succ m ih =>
      intro hm
      have gg := (mCl_g a2 (k := (m : Int)) (by omega) (by omega)).2.2.1
      have b1 := (mCL_c g hp hl (k := (m : Int)) (by omega) (by omega)).1
      have ih := ih (by omega)
      have e : sbF (mCL h p l) x z ((mCL h p l).length - m) (m : Int) = if bg (mCL h p l) m ≤ x then sbF (mCL h p l) x z ((mCL h p l).length - (m + 1)) ((m : Int) + 1) else bg (mCL h p l) m := by
        rw [show (mCL h p l).length - m = ((mCL h p l).length - (m + 1)) + 1 by omega]
        rfl
      rw [e] at ih
      rw [show ((m + 1 : Nat) : Int) - 1 = (m : Int) by omega, show ((m + 1 : Nat) : Int) = (m : Int) + 1 by omega]
      refine (rX13_shownBehind_36 g1.1 (by omega)).trans ?_
      rw [if_neg (by omega), gg]
      have ee : (if bg (mCL h p l) m = -1 then sbF (mCL h p l) x z ((mCL h p l).length - (m + 1)) ((m : Int) + 1) else (if bg (mCL h p l) m ≤ x then sbF (mCL h p l) x z ((mCL h p l).length - (m + 1)) ((m : Int) + 1) else bg (mCL h p l) m)) = if bg (mCL h p l) m ≤ x then sbF (mCL h p l) x z ((mCL h p l).length - (m + 1)) ((m : Int) + 1) else bg (mCL h p l) m := by
        by_cases c : bg (mCL h p l) m = -1
        · rw [if_pos c, if_pos (by omega)]
        · rw [if_neg c]
      rw [ee]
      exact ih
  refine (rX13_shownBehind_0 g.1.1).trans ((vret_n a1).trans ?_)
  refine (rX13_shownBehind_6 g1.1 hl.1 hl.2 (by omega) (by omega)).trans ?_
  rw [len, hz, c1]
  have := loop (mCL h p l).length (Nat.le_refl _)
  rw [Nat.sub_self] at this
  exact this
end MMV
