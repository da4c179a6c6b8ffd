/-! where a move of the reference goes -/
theorem saF_in {L : List Clu} {x N : Int} (hB : ∀ k : Int, 0 ≤ k → k < L.length → bg L k < N) : ∀ (f : Nat) (k r : Int), 0 ≤ k → k + f ≤ L.length → -1 ≤ r → r < N → -1 ≤ saF L x f k r ∧ saF L x f k r < N
  | 0, _, _, _, _, a, b => ⟨a, b⟩
  | f + 1, k, r, h0, hk, a, b => by
    have := hB k h0 (by omega)
    have e : saF L x (f + 1) k r = saF L x f (k + 1) (if x ≤ bg L k then r else max r (bg L k)) := rfl
    rw [e]
    exact saF_in hB f (k + 1) _ (by omega) (by omega) (by split <;> omega) (by split <;> omega)
theorem sbF_in {L : List Clu} {x z N : Int} (hB : ∀ k : Int, 0 ≤ k → k < L.length → bg L k < N) : ∀ (f : Nat) (k : Int), 0 ≤ k → k + f ≤ L.length → sbF L x z f k = z ∨ (x < sbF L x z f k ∧ sbF L x z f k < N)
  | 0, _, _, _ => Or.inl rfl
  | f + 1, k, h0, hk => by
    have := hB k h0 (by omega)
    have e : sbF L x z (f + 1) k = if bg L k ≤ x then sbF L x z f (k + 1) else bg L k := rfl
    rw [e]
    split
    · exact sbF_in hB f (k + 1) (by omega) (by omega)
    · right; omega
theorem lpM_in {L : List Clu} {N : Int} (hB : ∀ k : Int, 0 ≤ k → k < L.length → -1 ≤ bg L k ∧ bg L k < N) : ∀ (f : Nat) (k r : Int), 0 ≤ k → k + f ≤ L.length → -1 ≤ r → r < N → -1 ≤ lpM L f k r ∧ lpM L f k r < N
  | 0, _, _, _, _, a, b => ⟨a, b⟩
  | f + 1, k, r, h0, hk, a, b => by
    have := hB k h0 (by omega)
    have e : lpM L (f + 1) k r = lpM L f (k + 1) (max r (bg L k)) := rfl
    rw [e]
    exact lpM_in hB f (k + 1) _ (by omega) (by omega) (by omega) (by omega)
/-- the last place that begins in a row -/
def lsB (L : List Clu) : Nat → Int → Int → Int
  | 0, _, r => r
  | f + 1, k, r => lsB L f (k + 1) (if bg L k = -1 then r else bg L k)
theorem lsB_eq {L : List Clu} (hB : ∀ k : Int, 0 ≤ k → k < L.length → -1 ≤ bg L k) (hO : ∀ i j : Int, 0 ≤ i → i < j → j < L.length → bg L i = -1 ∨ bg L j = -1 ∨ bg L i < bg L j) : ∀ (f : Nat) (k r : Int), 0 ≤ k → k + f ≤ L.length → -1 ≤ r → (∀ i, k ≤ i → i < k + f → bg L i = -1 ∨ r ≤ bg L i) → lpM L f k r = lsB L f k r
  | 0, _, _, _, _, _, _ => rfl
  | f + 1, k, r, h0, hk, hr, hs => by
    have b := hB k h0 (by omega)
    have s := hs k (Int.le_refl _) (by omega)
    have e1 : lpM L (f + 1) k r = lpM L f (k + 1) (max r (bg L k)) := rfl
    have e2 : lsB L (f + 1) k r = lsB L f (k + 1) (if bg L k = -1 then r else bg L k) := rfl
    have e3 : max r (bg L k) = if bg L k = -1 then r else bg L k := by split <;> omega
    rw [e1, e2, e3]
    refine lsB_eq hB hO f (k + 1) _ (by omega) (by omega) (by split <;> omega) (fun i u v => ?_)
    have o := hO k i h0 (by omega) (by omega)
    have s2 := hs i (by omega) (by omega)
    split <;> omega
section MGO
variable {a b h : vH} {p l x : Int}
noncomputable def gAh (a : vH) (p : Int) : Int × Int := if saF (mCL a p (cuL a p)) (cuX a p) (mCL a p (cuL a p)).length 0 (-1) = -1 then (if bsD a p (cuL a p).toNat = -1 then (cuL a p, cuX a p) else (bsD a p (cuL a p).toNat, a 2 284 (bsD a p (cuL a p).toNat))) else (cuL a p, saF (mCL a p (cuL a p)) (cuX a p) (mCL a p (cuL a p)).length 0 (-1))
noncomputable def sbO (a : vH) (p l x : Int) : Int := sbF (mCL a p l) x (if a 2 284 l ≤ x then -1 else a 2 284 l) (mCL a p l).length 0
noncomputable def bsO (a : vH) (p l : Int) : Int := bsU a p (a 1504 282 0 - (l + 1)).toNat (l + 1)
noncomputable def gBe (a : vH) (p : Int) : Int × Int := if sbO a p (cuL a p) (cuX a p) = -1 then (if bsO a p (cuL a p) = -1 then (cuL a p, cuX a p) else (bsO a p (cuL a p), sbO a p (bsO a p (cuL a p)) (-1))) else (cuL a p, sbO a p (cuL a p) (cuX a p))
noncomputable def rTo (a : vH) (p y : Int) : Int := if mAll a p - 1 ≤ (if cuR a p + y ≤ 0 then 0 else cuR a p + y) then mAll a p - 1 else (if cuR a p + y ≤ 0 then 0 else cuR a p + y)
noncomputable def gRw (a : vH) (p y : Int) : Int × Int := if rTo a p y = cuR a p then (cuL a p, cuX a p) else ((mLn a p (rTo a p y) : Int), upR a p (rTo a p y) (a 2 307 p))
noncomputable def gHo (a : vH) (p : Int) : Int × Int := ((mLn a p (cuR a p) : Int), plR a p (cuR a p))
noncomputable def lpR (a : vH) (p r : Int) : Int := if (rwJ a p r : Int) = mRC a p (mLn a p r) - 1 then a 2 284 (mLn a p r) else lpM (mCL a p (mLn a p r)) (rS a p (mLn a p r) (rwJ a p r + 1) - rS a p (mLn a p r) (rwJ a p r)).toNat (rS a p (mLn a p r) (rwJ a p r)) (-1)
noncomputable def gEn (a : vH) (p : Int) : Int × Int := if lpR a p (cuR a p) = -1 then (cuL a p, cuX a p) else ((mLn a p (cuR a p) : Int), lpR a p (cuR a p))
/-- a place that is in the text -/
def isP (a : vH) (g : Int × Int) : Prop := (0 ≤ g.1 ∧ g.1 < a 1504 282 0) ∧ 0 ≤ g.2 ∧ g.2 ≤ a 2 284 g.1
theorem isP_cu (g : iG a) (hp : 0 ≤ p ∧ p < 4) : isP a (cuL a p, cuX a p) := ⟨(cu_in g hp).1, (cu_in g hp).2.1⟩
theorem sbO_in (g : iG a) (hp : 0 ≤ p ∧ p < 4) (hl : 0 ≤ l ∧ l < 60) (hx : -1 ≤ x) : sbO a p l x = -1 ∨ (0 ≤ sbO a p l x ∧ sbO a p l x ≤ a 2 284 l) := by
  have len := g.1.2.2.1 l hl.1 hl.2
  have q := sbF_in (L := mCL a p l) (x := x) (z := if a 2 284 l ≤ x then -1 else a 2 284 l) (N := a 2 284 l) (fun k u v => (mCL_c g hp hl u v).1.2) (mCL a p l).length 0 (Int.le_refl _) (by omega)
  have e : sbO a p l x = sbF (mCL a p l) x (if a 2 284 l ≤ x then -1 else a 2 284 l) (mCL a p l).length 0 := rfl
  rcases q with q | q
  · rw [e, q]; split <;> omega
  · omega
theorem isP_Ah (g : iG a) (hp : 0 ≤ p ∧ p < 4) : isP a (gAh a p) := by
  have gl := g.1.2.1
  have c := cu_in g hp
  have len := g.1.2.2.1 (cuL a p) c.1.1 (by omega)
  have s := saF_in (L := mCL a p (cuL a p)) (x := cuX a p) (N := a 2 284 (cuL a p) + 1) (fun k u v => by have := (mCL_c g hp (l := cuL a p) ⟨c.1.1, by omega⟩ u v).1.2; omega) (mCL a p (cuL a p)).length 0 (-1) (Int.le_refl _) (by omega) (Int.le_refl _) (by omega)
  have d := bsD_in (a := a) (p := p) (cuL a p).toNat
  unfold gAh
  split
  · split
    · exact isP_cu g hp
    · rename_i z1 z2
      have d := d.resolve_left z2
      have len2 := g.1.2.2.1 (bsD a p (cuL a p).toNat) d.1 (by omega)
      exact ⟨⟨d.1, by show bsD a p (cuL a p).toNat < _; omega⟩, len2.1, Int.le_refl _⟩
  · rename_i z1
    exact ⟨c.1, by show 0 ≤ saF _ _ _ _ _; omega, by show saF _ _ _ _ _ ≤ a 2 284 (cuL a p); omega⟩
theorem isP_Be (g : iG a) (hp : 0 ≤ p ∧ p < 4) : isP a (gBe a p) := by
  have gl := g.1.2.1
  have c := cu_in g hp
  have s1 := sbO_in g hp (l := cuL a p) (x := cuX a p) ⟨c.1.1, by omega⟩ (by omega)
  have d := bsU_in (a := a) (p := p) (a 1504 282 0 - (cuL a p + 1)).toNat (cuL a p + 1)
  have e : bsO a p (cuL a p) = bsU a p (a 1504 282 0 - (cuL a p + 1)).toNat (cuL a p + 1) := rfl
  rw [← e] at d
  unfold gBe
  split
  · split
    · exact isP_cu g hp
    · rename_i z1 z2
      have d := d.resolve_left z2
      have len2 := g.1.2.2.1 (bsO a p (cuL a p)) (by omega) (by omega)
      have q := sbF_in (L := mCL a p (bsO a p (cuL a p))) (x := -1) (z := if a 2 284 (bsO a p (cuL a p)) ≤ -1 then -1 else a 2 284 (bsO a p (cuL a p))) (N := a 2 284 (bsO a p (cuL a p))) (fun k u v => (mCL_c g hp (l := bsO a p (cuL a p)) ⟨by omega, by omega⟩ u v).1.2) (mCL a p (bsO a p (cuL a p))).length 0 (Int.le_refl _) (by omega)
      have es : sbO a p (bsO a p (cuL a p)) (-1) = sbF (mCL a p (bsO a p (cuL a p))) (-1) (if a 2 284 (bsO a p (cuL a p)) ≤ -1 then -1 else a 2 284 (bsO a p (cuL a p))) (mCL a p (bsO a p (cuL a p))).length 0 := rfl
      rw [← es, if_neg (by omega)] at q
      exact ⟨⟨by show 0 ≤ bsO a p (cuL a p); omega, by show bsO a p (cuL a p) < _; omega⟩, by show 0 ≤ sbO _ _ _ _; omega, by show sbO _ _ _ _ ≤ a 2 284 (bsO a p (cuL a p)); omega⟩
  · rename_i z1
    have s1 := s1.resolve_left z1
    exact ⟨c.1, s1⟩
theorem rTo_in (g : iG a) (hp : 0 ≤ p ∧ p < 4) {y : Int} : isRw a p (rTo a p y) := by
  have c := isRw_all.mp (cu_in g hp).2.2.2.1
  refine isRw_all.mpr ?_
  unfold rTo
  split
  · omega
  · split <;> omega
theorem isP_up (g : iG a) (hp : 0 ≤ p ∧ p < 4) {r : Int} (hr : isRw a p r) : isP a ((mLn a p r : Int), upR a p r x) := by
  have l1 := (rw_in g.1 hp hr).1
  exact ⟨⟨l1.1, l1.2.1⟩, upR_in g hp hr⟩
theorem isP_Rw (g : iG a) (hp : 0 ≤ p ∧ p < 4) {y : Int} : isP a (gRw a p y) := by
  unfold gRw
  split
  · exact isP_cu g hp
  · exact isP_up g hp (rTo_in g hp)
theorem isP_Ho (g : iG a) (hp : 0 ≤ p ∧ p < 4) : isP a (gHo a p) := by
  have c := (cu_in g hp).2.2.2.1
  have l1 := (rw_in g.1 hp c).1
  exact ⟨⟨l1.1, l1.2.1⟩, plR_in g hp c⟩
theorem lpR_in (g : iG a) (hp : 0 ≤ p ∧ p < 4) {r : Int} (hr : isRw a p r) : -1 ≤ lpR a p r ∧ lpR a p r ≤ a 2 284 (mLn a p r) := by
  obtain ⟨l1, j1, j2, v, -⟩ := rw_in g.1 hp hr
  have ss := rS_in g.1 hp (l := mLn a p r) (rwJ a p r)
  have len := g.1.2.2.1 (mLn a p r) (by omega) (by omega)
  have s := lpM_in (L := mCL a p (mLn a p r)) (N := a 2 284 (mLn a p r) + 1) (fun k u v => by have := (mCL_c g hp (l := mLn a p r) ⟨by omega, by omega⟩ u v).1; omega) (rS a p (mLn a p r) (rwJ a p r + 1) - rS a p (mLn a p r) (rwJ a p r)).toNat (rS a p (mLn a p r) (rwJ a p r)) (-1) ss.1 (by omega) (Int.le_refl _) (by omega)
  unfold lpR
  split <;> omega
theorem isP_En (g : iG a) (hp : 0 ≤ p ∧ p < 4) : isP a (gEn a p) := by
  have c := (cu_in g hp).2.2.2.1
  have l1 := (rw_in g.1 hp c).1
  have s := lpR_in g hp c
  unfold gEn
  split
  · exact isP_cu g hp
  · rename_i z
    exact ⟨⟨l1.1, l1.2.1⟩, by show 0 ≤ lpR a p (cuR a p); omega, s.2⟩
theorem iG_chP (g : iG a) {q : Int × Int} (z : isP a q) : iG (tCh a p q.1 q.2) := iG_ch g z.1 z.2
/-- it goes there: what a move says, and what it leaves -/
def goesX (h : vH) (p : Int) (q : Int × Int) (X : Option (vR × vH)) : Prop := ∃ h2, X = some (.inl (some (0, b2i (¬ (q.1 = cuL h p ∧ q.2 = cuX h p)))), h2) ∧ mF sA sK (tCh h p q.1 q.2) h2
theorem goesX_0 {X : Option (vR × vH)} {h2 : vH} (e : X = some (.inl (some (0, 0)), h2)) (f : mF sA sK h h2) : goesX h p (cuL h p, cuX h p) X := by
  refine ⟨h2, ?_, ?_⟩
  · rw [e, b2i_f (fun z => z ⟨rfl, rfl⟩)]
  · show mF sA sK (tCh h p (cuL h p) (cuX h p)) h2
    rw [ch_0]; exact f
theorem mF_chK (z : mF sA sK a b) : mF sA sK (tCh a p l x) (tCh b p l x) := by
  have y := (eqA_sc z).1
  unfold tCh
  rw [cuL_eq y (eqC_sT (sT_of z)), cuX_eq y (eqC_sT (sT_of z))]
  split
  · exact z
  · exact mF_go z
theorem goesX_1 (g : iG h) (hp : 0 ≤ p ∧ p < 4) {h1 : vH} (f : mF sA sK h h1) : vcl mX13_changes [(1, 282), (0, p), (0, l), (0, x)] h1 = some (.inl (some (0, b2i (¬ (l = cuL h p ∧ x = cuX h p)))), tCh h1 p l x) ∧ mF sA sK (tCh h p l x) (tCh h1 p l x) := by
  have e := M_changes (iG_sc f g) hp (l := l) (x := x)
  rw [cuL_eq (eqA_sc f).1 (eqC_sT (sT_of f)), cuX_eq (eqA_sc f).1 (eqC_sT (sT_of f))] at e
  exact ⟨e, mF_chK f⟩
theorem M_goesAhead (g : iG h) (hp : 0 ≤ p ∧ p < 4) : goesX h p (gAh h p) (vcl mX13_goesAhead [(1, 282), (0, p)] h) := by
  have gl := g.1.2.1
  have c := cu_in g hp
  obtain ⟨h1, a1, a2⟩ := M_shownAhead g hp (l := cuL h p) (x := cuX h p) ⟨c.1.1, by omega⟩ c.2.1
  have g1 := iG_sc a2 g
  have y1 := eqA_sc a2
  have base : vcl mX13_goesAhead [(1, 282), (0, p)] h = _ := (rX13_goesAhead_0 g.1.1).trans ((vret_v (M_lineNow g hp)).trans ((rX13_goesAhead_5 g.1.1).trans ((vret_v (M_placeNow g hp)).trans ((rX13_goesAhead_14 g.1.1).trans ((vret_v a1).trans (rX13_goesAhead_17 g1.1.1))))))
  unfold gAh
  by_cases c1 : saF (mCL h p (cuL h p)) (cuX h p) (mCL h p (cuL h p)).length 0 (-1) = -1
  · rw [if_pos c1]
    rw [if_pos c1] at base
    have be := M_besideD g1.1 hp (l := cuL h p) ⟨c.1.1, by rw [y1.2.1]; exact c.1.2⟩
    rw [bsD_eq y1.1] at be
    have d := bsD_in (a := h) (p := p) (cuL h p).toNat
    have base2 := base.trans ((vret_v be).trans (rX13_goesAhead_38 g1.1.1 (by omega) (by omega)))
    by_cases c2 : bsD h p (cuL h p).toNat = -1
    · rw [if_pos c2]
      rw [if_pos c2] at base2
      exact goesX_0 base2 a2
    · rw [if_neg c2]
      rw [if_neg c2, y1.1 284 _ (by decide) (by decide)] at base2
      obtain ⟨e1, e2⟩ := goesX_1 g hp a2 (l := bsD h p (cuL h p).toNat) (x := h 2 284 (bsD h p (cuL h p).toNat))
      refine ⟨_, base2.trans ((vret_v e1).trans (rX13_goesAhead_60.trans ?_)), e2⟩
      rw [b2i_nz]
  · rw [if_neg c1]
    rw [if_neg c1] at base
    obtain ⟨e1, e2⟩ := goesX_1 g hp a2 (l := cuL h p) (x := saF (mCL h p (cuL h p)) (cuX h p) (mCL h p (cuL h p)).length 0 (-1))
    exact ⟨_, base.trans ((vret_v e1).trans (rX13_goesAhead_30 b2i_01)), e2⟩
theorem M_goesBehind (g : iG h) (hp : 0 ≤ p ∧ p < 4) : goesX h p (gBe h p) (vcl mX13_goesBehind [(1, 282), (0, p)] h) := by
  have gl := g.1.2.1
  have c := cu_in g hp
  obtain ⟨h1, a1, a2⟩ := M_shownBehind g hp (l := cuL h p) (x := cuX h p) ⟨c.1.1, by omega⟩ (by omega)
  have g1 := iG_sc a2 g
  have y1 := eqA_sc a2
  have base : vcl mX13_goesBehind [(1, 282), (0, p)] h = _ := (rX13_goesBehind_0 g.1.1).trans ((vret_v (M_lineNow g hp)).trans ((rX13_goesBehind_5 g.1.1).trans ((vret_v (M_placeNow g hp)).trans ((rX13_goesBehind_14 g.1.1).trans ((vret_v a1).trans (rX13_goesBehind_17 g1.1.1))))))
  have es : sbO h p (cuL h p) (cuX h p) = sbF (mCL h p (cuL h p)) (cuX h p) (if h 2 284 (cuL h p) ≤ cuX h p then -1 else h 2 284 (cuL h p)) (mCL h p (cuL h p)).length 0 := rfl
  rw [← es] at base
  unfold gBe
  by_cases c1 : sbO h p (cuL h p) (cuX h p) = -1
  · rw [if_pos c1]
    rw [if_pos c1] at base
    have be := M_besideU g1.1 hp (l := cuL h p) ⟨c.1.1, by rw [y1.2.1]; exact c.1.2⟩
    rw [bsU_eq y1.1, y1.2.1] at be
    have eb : bsO h p (cuL h p) = bsU h p (h 1504 282 0 - (cuL h p + 1)).toNat (cuL h p + 1) := rfl
    rw [← eb] at be
    have d := bsU_in (a := h) (p := p) (h 1504 282 0 - (cuL h p + 1)).toNat (cuL h p + 1)
    rw [← eb] at d
    have base2 := base.trans ((vret_v be).trans (rX13_goesBehind_38 g1.1.1))
    by_cases c2 : bsO h p (cuL h p) = -1
    · rw [if_pos c2]
      rw [if_pos c2] at base2
      exact goesX_0 base2 a2
    · rw [if_neg c2]
      rw [if_neg c2] at base2
      have d := d.resolve_left c2
      obtain ⟨h2, d1, d2⟩ := M_shownBehind g1 hp (l := bsO h p (cuL h p)) (x := -1) ⟨by omega, by omega⟩ (Int.le_refl _)
      rw [mCL_eq y1.1, y1.1 284 _ (by decide) (by decide)] at d1
      have f2 := mF_tr a2 d2
      obtain ⟨e1, e2⟩ := goesX_1 g hp f2 (l := bsO h p (cuL h p)) (x := sbO h p (bsO h p (cuL h p)) (-1))
      refine ⟨_, base2.trans ((vret_v d1).trans ((rX13_goesBehind_58 (iG_sc f2 g).1.1).trans ((vret_v e1).trans (rX13_goesBehind_61.trans ?_)))), e2⟩
      rw [b2i_nz]
  · rw [if_neg c1]
    rw [if_neg c1] at base
    obtain ⟨e1, e2⟩ := goesX_1 g hp a2 (l := cuL h p) (x := sbO h p (cuL h p) (cuX h p))
    exact ⟨_, base.trans ((vret_v e1).trans (rX13_goesBehind_30 b2i_01)), e2⟩
theorem M_goesRows (g : iG h) (hp : 0 ≤ p ∧ p < 4) {y : Int} (hy : -100 ≤ y ∧ y ≤ 100) : goesX h p (gRw h p y) (vcl mX13_goesRows [(1, 282), (0, p), (0, y)] h) := by
  have gl := g.1.2.1
  have c := cu_in g hp
  have cr := rw_in g.1 hp c.2.2.2.1
  have c0 := c.2.2.2.1.1
  obtain ⟨h1, a1, a2⟩ := M_rowNow g hp
  have g1 := iG_sc a2 g
  have y1 := eqA_sc a2
  obtain ⟨h2, b1, b2⟩ := M_all g1.1 hp
  rw [mAll_eq y1] at b1
  have f2 := mF_tr a2 b2
  have g2 := iG_sc f2 g
  have y2 := eqA_sc f2
  have al := mAll_in g.1 hp
  have base : vcl mX13_goesRows [(1, 282), (0, p), (0, y)] h = _ := (rX13_goesRows_0 g.1.1).trans ((vret_v a1).trans ((rX13_goesRows_5 (by omega) (by omega) g1.1.1).trans ((vret_v b1).trans (rX13_goesRows_22 (by omega) (by omega) g2.1.1))))
  have et : rTo h p y = if mAll h p - 1 ≤ (if cuR h p + y ≤ 0 then 0 else cuR h p + y) then mAll h p - 1 else (if cuR h p + y ≤ 0 then 0 else cuR h p + y) := rfl
  rw [← et] at base
  have ri := rTo_in g hp (y := y)
  unfold gRw
  by_cases c1 : rTo h p y = cuR h p
  · rw [if_pos c1]
    rw [if_pos c1] at base
    exact goesX_0 base f2
  · rw [if_neg c1]
    rw [if_neg c1] at base
    have r7 := rw_in g.1 hp ri
    obtain ⟨h3, d1, d2⟩ := M_lineOf g2.1 hp ((isRw_eq y2).mpr ri) (by omega)
    rw [mLn_eq y2.1] at d1
    have f3 := mF_tr f2 d2
    have g3 := iG_sc f3 g
    have y3 := eqA_sc f3
    obtain ⟨h4, e1, e2⟩ := M_upR g3.1 hp ((isRw_eq y3).mpr ri) (x := h3 2 307 p)
    rw [upR_eq y3.1, f3 2 307 p (by simp) (by simp)] at e1
    have f4 := mF_tr f3 e2
    obtain ⟨k1, k2⟩ := goesX_1 g hp f4 (l := (mLn h p (rTo h p y) : Int)) (x := upR h p (rTo h p y) (h 2 307 p))
    have s3 := rX13_goesRows_44 (x1 := p) (x2 := y) (x3 := cuR h p) (x4 := rTo h p y) (y0 := (mLn h p (rTo h p y) : Int)) (y1 := p) g3.1.1 hp.1 hp.2
    rw [f3 2 307 p (by simp) (by simp)] at s3
    refine ⟨_, base.trans ((vret_v d1).trans (s3.trans ((vret_v e1).trans ((rX13_goesRows_57 (iG_sc f4 g).1.1).trans ((vret_v k1).trans (rX13_goesRows_60.trans ?_)))))), k2⟩
    rw [b2i_nz]
theorem M_goesHome (g : iG h) (hp : 0 ≤ p ∧ p < 4) : goesX h p (gHo h p) (vcl mX13_goesHome [(1, 282), (0, p)] h) := by
  have c := cu_in g hp
  have cr := rw_in g.1 hp c.2.2.2.1
  obtain ⟨h1, a1, a2⟩ := M_rowNow g hp
  have g1 := iG_sc a2 g
  have y1 := eqA_sc a2
  obtain ⟨h2, b1, b2⟩ := M_lineOf g1.1 hp ((isRw_eq y1).mpr c.2.2.2.1) (by omega)
  rw [mLn_eq y1.1] at b1
  have f2 := mF_tr a2 b2
  have g2 := iG_sc f2 g
  have y2 := eqA_sc f2
  obtain ⟨h3, d1, d2⟩ := M_plR g2.1 hp ((isRw_eq y2).mpr c.2.2.2.1)
  rw [plR_eq y2.1] at d1
  have f3 := mF_tr f2 d2
  obtain ⟨k1, k2⟩ := goesX_1 g hp f3 (l := (mLn h p (cuR h p) : Int)) (x := plR h p (cuR h p))
  exact ⟨_, (rX13_goesHome_0 g.1.1).trans ((vret_v a1).trans ((rX13_goesHome_5 g1.1.1).trans ((vret_v b1).trans ((rX13_goesHome_14 g2.1.1).trans ((vret_v d1).trans ((rX13_goesHome_20 (iG_sc f3 g).1.1).trans ((vret_v k1).trans (rX13_goesHome_23 b2i_01)))))))), k2⟩
theorem M_goesEnd (g : iG h) (hp : 0 ≤ p ∧ p < 4) : goesX h p (gEn h p) (vcl mX13_goesEnd [(1, 282), (0, p)] h) := by
  have c := cu_in g hp
  have cr := rw_in g.1 hp c.2.2.2.1
  obtain ⟨h1, a1, a2⟩ := M_rowNow g hp
  have g1 := iG_sc a2 g
  have y1 := eqA_sc a2
  obtain ⟨h2, b1, b2⟩ := M_lineOf g1.1 hp ((isRw_eq y1).mpr c.2.2.2.1) (by omega)
  rw [mLn_eq y1.1] at b1
  have f2 := mF_tr a2 b2
  have g2 := iG_sc f2 g
  have y2 := eqA_sc f2
  obtain ⟨h3, R, d1, d2, d3, d4, d5⟩ := M_laysRow g2.1 hp ((isRw_eq y2).mpr c.2.2.2.1) (by omega)
  rw [mLn_eq y2.1, mRA_eq y2.1] at d1 d4 d5
  rw [mLn_eq y2.1, mCL_eq y2.1, y2.1 286 _ (by decide) (by decide), y2.1 287 _ (by decide) (by decide)] at d3
  have f3 := mF_tr f2 d2
  have g3 := iG_sc f3 g
  have y3 := eqA_sc f3
  obtain ⟨r1, r2, r3, r4⟩ := cr
  rw [← r2] at d1 d4 d5
  obtain ⟨q1, q2, q3, q4, q5, q6, q7, q8, q9⟩ := id d3
  have rc : mRC h p (mLn h p (cuR h p)) = (R : Int) := by
    unfold mRC
    rw [if_neg r4.1]
    exact congrArg (fun n : Nat => (n : Int)) (rC_eq q2.1)
  have r131 := q2.2
  have gL : ∀ k : Int, 0 ≤ k → k < (mCL h p (mLn h p (cuR h p))).length → -1 ≤ bg (mCL h p (mLn h p (cuR h p))) k ∧ bg (mCL h p (mLn h p (cuR h p))) k < h 2 284 (mLn h p (cuR h p)) := fun k u v => (mCL_c g hp (l := mLn h p (cuR h p)) ⟨by omega, by omega⟩ u v).1
  have ss := rS_in g.1 hp (l := mLn h p (cuR h p)) (rwJ h p (cuR h p))
  have e0 := q4 (rwJ h p (cuR h p)) (by omega)
  have e1 := q4 (rwJ h p (cuR h p) + 1) (by omega)
  rw [show ((rwJ h p (cuR h p) + 1 : Nat) : Int) = (rwJ h p (cuR h p) : Int) + 1 by omega] at e1
  have len : h3 2 284 (mLn h p (cuR h p)) = h 2 284 (mLn h p (cuR h p)) := y3.1 _ _ (by decide) (by decide)
  have base : vcl mX13_goesEnd [(1, 282), (0, p)] h = _ := (rX13_goesEnd_0 g.1.1).trans ((vret_v a1).trans ((rX13_goesEnd_5 g1.1.1).trans ((vret_v b1).trans ((rX13_goesEnd_12 g2.1.1).trans ((vret_v d1).trans (rX13_goesEnd_19 g3.1.1 (by omega) (by omega) (by omega) (by omega) (by omega) (by omega)))))))
  rw [q3, len, e0] at base
  have fin : ∀ (z v : Int), goesX h p (if z = -1 then (cuL h p, cuX h p) else ((mLn h p (cuR h p) : Int), z)) (if z = -1 then some (.inl (some (0, 0)), h3) else vret vrun mX13_goesEnd 120 [(1, 282), (0, p), (0, cuR h p), (0, (mLn h p (cuR h p) : Int)), (0, (rwJ h p (cuR h p) : Int)), (0, z), (0, v)] [] (vcl mX13_changes [(1, 282), (0, p), (0, (mLn h p (cuR h p) : Int)), (0, z)] h3)) := by
    intro z v
    by_cases w : z = -1
    · rw [if_pos w, if_pos w]; exact goesX_0 rfl f3
    · rw [if_neg w, if_neg w]
      obtain ⟨k1, k2⟩ := goesX_1 g hp f3 (l := (mLn h p (cuR h p) : Int)) (x := z)
      refine ⟨_, (vret_v k1).trans (rX13_goesEnd_123.trans ?_), k2⟩
      rw [b2i_nz]
  rw [base]
  unfold gEn lpR
  rw [rc]
  by_cases w : (rwJ h p (cuR h p) : Int) = (R : Int) - 1
  · rw [if_pos w, if_pos w]
    have s := rX13_goesEnd_53 (x1 := p) (x2 := cuR h p) (x3 := (mLn h p (cuR h p) : Int)) (x4 := (rwJ h p (cuR h p) : Int)) (x5 := h 2 284 (mLn h p (cuR h p))) (x6 := rSt (sg (mCL h p (mLn h p (cuR h p)))) (mCL h p (mLn h p (cuR h p))).length (h 2 286 p) (h 2 287 p) (rwJ h p (cuR h p))) g3.1.1 (by omega) (by omega) (by omega) (by omega) (by omega) (by omega) (by omega) (by omega)
    rw [s, q3, if_pos (show (R : Int) - 1 ≤ (rwJ h p (cuR h p) : Int) by omega), ite_self]
    exact fin _ _
  · rw [if_neg w, if_neg w]
    have le := lsB_eq (L := mCL h p (mLn h p (cuR h p))) (fun k u v => (gL k u v).1) (fun i j u v t => mCL_o g hp (l := mLn h p (cuR h p)) ⟨by omega, by omega⟩ u v t) (rS h p (mLn h p (cuR h p)) (rwJ h p (cuR h p) + 1) - rS h p (mLn h p (cuR h p)) (rwJ h p (cuR h p))).toNat (rS h p (mLn h p (cuR h p)) (rwJ h p (cuR h p))) (-1) ss.1 (by omega) (Int.le_refl _) (fun i u v => Or.inr (gL i (by omega) (by omega)).1)
    rw [le]
    have loop : ∀ (f : Nat) (k r : Int), k + f = rS h p (mLn h p (cuR h p)) (rwJ h p (cuR h p) + 1) → 0 ≤ k → ∃ v, vrun mX13_goesEnd 53 [(1, 282), (0, p), (0, cuR h p), (0, (mLn h p (cuR h p) : Int)), (0, (rwJ h p (cuR h p) : Int)), (0, r), (0, k)] [] h3 = (if lsB (mCL h p (mLn h p (cuR h p))) f k r = -1 then some (.inl (some (0, 0)), h3) else vret vrun mX13_goesEnd 120 [(1, 282), (0, p), (0, cuR h p), (0, (mLn h p (cuR h p) : Int)), (0, (rwJ h p (cuR h p) : Int)), (0, lsB (mCL h p (mLn h p (cuR h p))) f k r), (0, v)] [] (vcl mX13_changes [(1, 282), (0, p), (0, (mLn h p (cuR h p) : Int)), (0, lsB (mCL h p (mLn h p (cuR h p))) f k r)] h3)) := by
      intro f
      induction f with
      | zero =>
        intro k r hk h0
        refine ⟨k, (rX13_goesEnd_53 g3.1.1 (by omega) (by omega) (by omega) (by omega) (by omega) (by omega) (by omega) (by omega)).trans ?_⟩
        rw [if_pos (by rw [e1]; show rS h p (mLn h p (cuR h p)) (rwJ h p (cuR h p) + 1) ≤ k; omega)]
        rfl
      | succ f ih =>
        intro k r hk h0
        have e1' : h3 2 320 ((rwJ h p (cuR h p) : Int) + 1) = rS h p (mLn h p (cuR h p)) (rwJ h p (cuR h p) + 1) := e1
        obtain ⟨v, iv⟩ := ih (k + 1) (if bg (mCL h p (mLn h p (cuR h p))) k = -1 then r else bg (mCL h p (mLn h p (cuR h p))) k) (by omega) (by omega)
        have gg := (mCl_g q1 (k := k) h0 (by omega)).2.2.1
        refine ⟨v, (rX13_goesEnd_53 g3.1.1 (by omega) (by omega) (by omega) (by omega) (by omega) (by omega) (by omega) (by omega)).trans ?_⟩
        rw [if_neg (by omega), if_neg (by omega), gg]
        exact iv
    obtain ⟨v, iv⟩ := loop (rS h p (mLn h p (cuR h p)) (rwJ h p (cuR h p) + 1) - rS h p (mLn h p (cuR h p)) (rwJ h p (cuR h p))).toNat (rS h p (mLn h p (cuR h p)) (rwJ h p (cuR h p))) (-1) (by omega) ss.1
    have iv' : vrun mX13_goesEnd 53 [(1, 282), (0, p), (0, cuR h p), (0, (mLn h p (cuR h p) : Int)), (0, (rwJ h p (cuR h p) : Int)), (0, -1), (0, rSt (sg (mCL h p (mLn h p (cuR h p)))) (mCL h p (mLn h p (cuR h p))).length (h 2 286 p) (h 2 287 p) (rwJ h p (cuR h p)))] [] h3 = _ := iv
    rw [iv']
    exact fin _ _
/-- a move -/
noncomputable def gMv (a : vH) (p mv : Int) : Int × Int := if mv = 0 then gAh a p else if mv = 1 then gBe a p else if mv = 2 then gRw a p (-1) else if mv = 3 then gRw a p 1 else if mv = 4 then gHo a p else if mv = 5 then gEn a p else if mv = 6 then gRw a p (-a 2 310 p) else gRw a p (a 2 310 p)
noncomputable def mvd (a : vH) (p mv : Int) : Int := b2i (¬ ((gMv a p mv).1 = cuL a p ∧ (gMv a p mv).2 = cuX a p))
noncomputable def tM1 (a : vH) (p mv : Int) : vH := tCh a p (gMv a p mv).1 (gMv a p mv).2
noncomputable def tM2 (a : vH) (p mv : Int) : vH := if mv = 2 ∨ mv = 3 ∨ ¬ (mv < 6) then tWn (tM1 a p mv) p (tM1 a p mv 2 307 p) else tWn (tM1 a p mv) p (cuC (tM1 a p mv) p)
noncomputable def tMk (a : vH) (p mv : Int) : vH := if mvd a p mv = 0 then tM2 a p mv else tLk (tM2 a p mv) p
theorem isP_Mv (g : iG a) (hp : 0 ≤ p ∧ p < 4) {mv : Int} : isP a (gMv a p mv) := by
  unfold gMv
  split
  · exact isP_Ah g hp
  split
  · exact isP_Be g hp
  split
  · exact isP_Rw g hp
  split
  · exact isP_Rw g hp
  split
  · exact isP_Ho g hp
  split
  · exact isP_En g hp
  split
  · exact isP_Rw g hp
  · exact isP_Rw g hp
theorem iG_M2 (g : iG a) (hp : 0 ≤ p ∧ p < 4) {mv : Int} : iG (tM2 a p mv) := by
  have g1 : iG (tM1 a p mv) := iG_chP g (isP_Mv g hp)
  unfold tM2
  split
  · exact iG_wn g1
  · exact iG_wn g1
theorem M2_H {mv q : Int} : tM2 a p mv 2 310 q = a 2 310 q := by
  have e1 : tM1 a p mv 2 310 q = a 2 310 q := by
    unfold tM1 tCh
    split
    · rfl
    · exact (vup_r (by decide)).trans (vup_r (by decide))
  unfold tM2
  split
  · exact (vup_r (by decide)).trans e1
  · exact (vup_r (by decide)).trans e1
theorem iG_Mk (g : iG a) (hp : 0 ≤ p ∧ p < 4) (hH : 1 ≤ a 2 310 p ∧ a 2 310 p ≤ 24) {mv : Int} : iG (tMk a p mv) := by
  unfold tMk
  split
  · exact iG_M2 g hp
  · exact iG_lk (iG_M2 g hp) hp (by rw [M2_H]; exact hH)
theorem mF_lkK (z : mF sA sK a b) : mF sA sK (tLk a p) (tLk b p) := by
  have y := (eqA_sc z).1
  unfold tLk
  rw [toR_eq y (eqT_sT (sT_of z)), cuR_eq y (eqC_sT (sT_of z)), mgn_eq (sT_of z), z 2 310 p (by simp) (by simp)]
  have tp : ∀ r, mF sA sK (tTop a p r) (tTop b p r) := by
    intro r
    unfold tTop
    rw [plR_eq y, mLn_eq y]
    exact mF_vv (mF_vv z)
  split
  · split
    · exact z
    · exact tp _
  · exact tp _
theorem M_makes (g : iG h) (hp : 0 ≤ p ∧ p < 4) (hH : 1 ≤ h 2 310 p ∧ h 2 310 p ≤ 24) {mv : Int} (hm : 0 ≤ mv ∧ mv ≤ 7) : ∃ h2, vcl mX13_makes [(1, 282), (0, p), (0, mv)] h = some (.inl (some (0, mvd h p mv)), h2) ∧ mF sA sK (tMk h p mv) h2 := by
  have g1 : iG (tM1 h p mv) := iG_chP g (isP_Mv g hp)
  have fin : ∀ (X : Option (vR × vH)) (h1 : vH), mF sA sK (tM1 h p mv) h1 → (X = if mv = 2 ∨ mv = 3 ∨ ¬ (mv < 6) then (if mvd h p mv = 0 then some (.inl (some (0, mvd h p mv)), vup h1 2 307 p (h1 2 307 p)) else vret vrun mX13_makes 177 [(1, 282), (0, p), (0, mv), (0, mvd h p mv), (0, (if mv = 2 ∨ mv = 3 ∨ ¬ (mv < 6) then 1 else 0))] [] (vcl mX13_looks [(1, 282), (0, p)] (vup h1 2 307 p (h1 2 307 p)))) else vret vrun mX13_makes 167 [(1, 282), (0, p), (0, mv), (0, mvd h p mv), (0, (if mv = 2 ∨ mv = 3 ∨ ¬ (mv < 6) then 1 else 0))] [(0, p), (1, 307)] (vcl mX13_columnNow [(1, 282), (0, p)] h1)) → ∃ h2, X = some (.inl (some (0, mvd h p mv)), h2) ∧ mF sA sK (tMk h p mv) h2 := by
    intro X h1 f1 eX
    have g1' := iG_sc f1 g1
    have last : ∀ (h3 : vH) (w : Int), mF sA sK (tM2 h p mv) h3 → ∃ h2, (if mvd h p mv = 0 then some (.inl (some (0, mvd h p mv)), h3) else vret vrun mX13_makes 177 [(1, 282), (0, p), (0, mv), (0, mvd h p mv), (0, w)] [] (vcl mX13_looks [(1, 282), (0, p)] h3)) = some (.inl (some (0, mvd h p mv)), h2) ∧ mF sA sK (tMk h p mv) h2 := by
      intro h3 w f3
      unfold tMk
      by_cases z : mvd h p mv = 0
      · rw [if_pos z, if_pos z]; exact ⟨h3, rfl, f3⟩
      · rw [if_neg z, if_neg z]
        have g3 := iG_sc f3 (iG_M2 g hp)
        obtain ⟨h4, d1, d2⟩ := M_looks g3 hp (by rw [f3 2 310 p (by simp) (by simp), M2_H]; exact hH)
        exact ⟨h4, (vret_n d1).trans (rX13_makes_180 b2i_01), mF_tr (mF_lkK f3) d2⟩
    by_cases c : mv = 2 ∨ mv = 3 ∨ ¬ (mv < 6)
    · rw [if_pos c] at eX
      have f3 : mF sA sK (tM2 h p mv) (vup h1 2 307 p (h1 2 307 p)) := by
        unfold tM2
        rw [if_pos c, f1 2 307 p (by simp) (by simp)]
        exact mF_vv f1
      obtain ⟨h2, q1, q2⟩ := last _ (if mv = 2 ∨ mv = 3 ∨ ¬ (mv < 6) then 1 else 0) f3
      exact ⟨h2, eX.trans q1, q2⟩
    · rw [if_neg c] at eX
      obtain ⟨h3, d1, d2⟩ := M_columnNow g1' hp
      rw [cuC_eq (eqA_sc f1).1 (eqC_sT (sT_of f1))] at d1
      have f3 := mF_tr f1 d2
      have s := shM_307 (iG_sc f3 g1).1.1
      have f4 : mF sA sK (tM2 h p mv) (vup h3 2 307 p (cuC (tM1 h p mv) p)) := by
        unfold tM2
        rw [if_neg c]
        exact mF_vv f3
      obtain ⟨h2, q1, q2⟩ := last _ (if mv = 2 ∨ mv = 3 ∨ ¬ (mv < 6) then 1 else 0) f4
      exact ⟨h2, eX.trans ((vret_v d1).trans ((rX13_makes_170 s.1 hp.1 (by omega) (fun z => Or.inl z) (iG_sc f3 g1).1.1).trans q1)), q2⟩
  have base : vcl mX13_makes [(1, 282), (0, p), (0, mv)] h = _ := rX13_makes_0 g.1.1 (by omega) (by omega) (by omega) (by omega) (by omega) (by omega)
  rw [base]
  have em : ∀ q : Int × Int, gMv h p mv = q → mvd h p mv = b2i (¬ (q.1 = cuL h p ∧ q.2 = cuX h p)) ∧ tM1 h p mv = tCh h p q.1 q.2 := by
    intro q e
    unfold mvd tM1
    rw [e]
    exact ⟨rfl, rfl⟩
  by_cases c0 : mv = 0
  · obtain ⟨e1, e2⟩ := em (gAh h p) (by unfold gMv; rw [if_pos c0])
    obtain ⟨h1, d1, d2⟩ := M_goesAhead g hp
    rw [if_pos c0]
    rw [← e1] at d1
    rw [← e2] at d2
    exact fin _ h1 d2 ((vret_v d1).trans (rX13_makes_45 (iG_sc d2 g1).1.1 (fun _ => hp.1) (fun _ => hp.2) (fun _ z => Or.inl z)))
  by_cases c1 : mv = 1
  · obtain ⟨e1, e2⟩ := em (gBe h p) (by unfold gMv; rw [if_neg c0, if_pos c1])
    obtain ⟨h1, d1, d2⟩ := M_goesBehind g hp
    rw [if_neg c0, if_pos c1]
    rw [← e1] at d1
    rw [← e2] at d2
    exact fin _ h1 d2 ((vret_v d1).trans (rX13_makes_54 (iG_sc d2 g1).1.1 (fun _ => hp.1) (fun _ => hp.2) (fun _ z => Or.inl z)))
  by_cases c2 : mv = 2
  · obtain ⟨e1, e2⟩ := em (gRw h p (-1)) (by unfold gMv; rw [if_neg c0, if_neg c1, if_pos c2])
    obtain ⟨h1, d1, d2⟩ := M_goesRows g hp (y := -1) (by omega)
    rw [if_neg c0, if_neg c1, if_pos c2, if_pos c2]
    rw [← e1] at d1
    rw [← e2] at d2
    exact fin _ h1 d2 ((vret_v d1).trans (rX13_makes_73 (iG_sc d2 g1).1.1 (fun _ => hp.1) (fun _ => hp.2) (fun _ z => Or.inl z)))
  by_cases c3 : mv = 3
  · obtain ⟨e1, e2⟩ := em (gRw h p 1) (by unfold gMv; rw [if_neg c0, if_neg c1, if_neg c2, if_pos c3])
    obtain ⟨h1, d1, d2⟩ := M_goesRows g hp (y := 1) (by omega)
    rw [if_neg c0, if_neg c1, if_neg c2, if_pos c3, if_neg c2]
    rw [← e1] at d1
    rw [← e2] at d2
    exact fin _ h1 d2 ((vret_v d1).trans (rX13_makes_73 (iG_sc d2 g1).1.1 (fun _ => hp.1) (fun _ => hp.2) (fun _ z => Or.inl z)))
  by_cases c4 : mv = 4
  · obtain ⟨e1, e2⟩ := em (gHo h p) (by unfold gMv; rw [if_neg c0, if_neg c1, if_neg c2, if_neg c3, if_pos c4])
    obtain ⟨h1, d1, d2⟩ := M_goesHome g hp
    rw [if_neg c0, if_neg c1, if_neg c2, if_neg c3, if_pos c4]
    rw [← e1] at d1
    rw [← e2] at d2
    exact fin _ h1 d2 ((vret_v d1).trans (rX13_makes_82 (iG_sc d2 g1).1.1 (fun _ => hp.1) (fun _ => hp.2) (fun _ z => Or.inl z)))
  by_cases c5 : mv = 5
  · obtain ⟨e1, e2⟩ := em (gEn h p) (by unfold gMv; rw [if_neg c0, if_neg c1, if_neg c2, if_neg c3, if_neg c4, if_pos c5])
    obtain ⟨h1, d1, d2⟩ := M_goesEnd g hp
    rw [if_neg c0, if_neg c1, if_neg c2, if_neg c3, if_neg c4, if_pos c5]
    rw [← e1] at d1
    rw [← e2] at d2
    exact fin _ h1 d2 ((vret_v d1).trans (rX13_makes_91 (iG_sc d2 g1).1.1 (fun _ => hp.1) (fun _ => hp.2) (fun _ z => Or.inl z)))
  obtain ⟨e1, e2⟩ := em (gRw h p (if mv = 6 then -h 2 310 p else h 2 310 p)) (by unfold gMv; rw [if_neg c0, if_neg c1, if_neg c2, if_neg c3, if_neg c4, if_neg c5]; split <;> rfl)
  obtain ⟨h1, d1, d2⟩ := M_goesRows g hp (y := if mv = 6 then -h 2 310 p else h 2 310 p) (by split <;> omega)
  rw [if_neg c0, if_neg c1, if_neg c2, if_neg c3, if_neg c4, if_neg c5]
  rw [← e1] at d1
  rw [← e2] at d2
  exact fin _ h1 d2 ((vret_v d1).trans (rX13_makes_122 (iG_sc d2 g1).1.1 (fun _ => hp.1) (fun _ => hp.2) (fun _ z => Or.inl z)))
end MGO
