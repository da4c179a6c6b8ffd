/-! where a move of the reference goes -/
theorem saF_in {L : List Clu} {x N : Int} (hB : ∀ k : Int, 0 ≤ k → k < L.length → bg L k < N) : ∀ (f : Nat) (k r : Int), 0 ≤ k → k + f ≤ L.length → -1 ≤ r → r < N → -1 ≤ saF L x f k r ∧ saF L x f k r < N
  | 0, _, _, _, _, a, b => ⟨a, b⟩
  | f + 1, k, r, h0, hk, a, b => by
    have := hB k h0 (by omega)
    have e : saF L x (f + 1) k r = saF L x f (k + 1) (if x ≤ bg L k then r else max r (bg L k)) := rfl
    rw [e]
    exact saF_in hB f (k + 1) _ (by omega) (by omega) (by split <;> omega) (by split <;> omega)
theorem sbF_in {L : List Clu} {x z N : Int} (hB : ∀ k : Int, 0 ≤ k → k < L.length → bg L k < N) : ∀ (f : Nat) (k : Int), 0 ≤ k → k + f ≤ L.length → sbF L x z f k = z ∨ (x < sbF L x z f k ∧ sbF L x z f k < N)
  | 0, _, _, _ => Or.inl rfl
  | f + 1, k, h0, hk => by
    have := hB k h0 (by omega)
    have e : sbF L x z (f + 1) k = if bg L k ≤ x then sbF L x z f (k + 1) else bg L k := rfl
    rw [e]
    split
    · exact sbF_in hB f (k + 1) (by omega) (by omega)
    · right; omega
theorem lpM_in {L : List Clu} {N : Int} (hB : ∀ k : Int, 0 ≤ k → k < L.length → -1 ≤ bg L k ∧ bg L k < N) : ∀ (f : Nat) (k r : Int), 0 ≤ k → k + f ≤ L.length → -1 ≤ r → r < N → -1 ≤ lpM L f k r ∧ lpM L f k r < N
  | 0, _, _, _, _, a, b => ⟨a, b⟩
  | f + 1, k, r, h0, hk, a, b => by
    have := hB k h0 (by omega)
    have e : lpM L (f + 1) k r = lpM L f (k + 1) (max r (bg L k)) := rfl
    rw [e]
    exact lpM_in hB f (k + 1) _ (by omega) (by omega) (by omega) (by omega)
section MGO
variable {a b h : vH} {p l x : Int}
noncomputable def gAh (a : vH) (p : Int) : Int × Int := if saF (mCL a p (cuL a p)) (cuX a p) (mCL a p (cuL a p)).length 0 (-1) = -1 then (if bsD a p (cuL a p).toNat = -1 then (cuL a p, cuX a p) else (bsD a p (cuL a p).toNat, a 2 284 (bsD a p (cuL a p).toNat))) else (cuL a p, saF (mCL a p (cuL a p)) (cuX a p) (mCL a p (cuL a p)).length 0 (-1))
noncomputable def sbO (a : vH) (p l x : Int) : Int := sbF (mCL a p l) x (if a 2 284 l ≤ x then -1 else a 2 284 l) (mCL a p l).length 0
noncomputable def bsO (a : vH) (p l : Int) : Int := bsU a p (a 1504 282 0 - (l + 1)).toNat (l + 1)
noncomputable def gBe (a : vH) (p : Int) : Int × Int := if sbO a p (cuL a p) (cuX a p) = -1 then (if bsO a p (cuL a p) = -1 then (cuL a p, cuX a p) else (bsO a p (cuL a p), sbO a p (bsO a p (cuL a p)) (-1))) else (cuL a p, sbO a p (cuL a p) (cuX a p))
noncomputable def rTo (a : vH) (p y : Int) : Int := if mAll a p - 1 ≤ (if cuR a p + y ≤ 0 then 0 else cuR a p + y) then mAll a p - 1 else (if cuR a p + y ≤ 0 then 0 else cuR a p + y)
noncomputable def gRw (a : vH) (p y : Int) : Int × Int := if rTo a p y = cuR a p then (cuL a p, cuX a p) else ((mLn a p (rTo a p y) : Int), upR a p (rTo a p y) (a 2 307 p))
noncomputable def gHo (a : vH) (p : Int) : Int × Int := ((mLn a p (cuR a p) : Int), plR a p (cuR a p))
noncomputable def lpR (a : vH) (p r : Int) : Int := if (rwJ a p r : Int) = mRC a p (mLn a p r) - 1 then a 2 284 (mLn a p r) else lpM (mCL a p (mLn a p r)) (rS a p (mLn a p r) (rwJ a p r + 1) - rS a p (mLn a p r) (rwJ a p r)).toNat (rS a p (mLn a p r) (rwJ a p r)) (-1)
noncomputable def gEn (a : vH) (p : Int) : Int × Int := if lpR a p (cuR a p) = -1 then (cuL a p, cuX a p) else ((mLn a p (cuR a p) : Int), lpR a p (cuR a p))
/-- a place that is in the text -/
def isP (a : vH) (g : Int × Int) : Prop := (0 ≤ g.1 ∧ g.1 < a 1504 282 0) ∧ 0 ≤ g.2 ∧ g.2 ≤ a 2 284 g.1
theorem isP_cu (g : iG a) (hp : 0 ≤ p ∧ p < 4) : isP a (cuL a p, cuX a p) := ⟨(cu_in g hp).1, (cu_in g hp).2.1⟩
theorem sbO_in (g : iG a) (hp : 0 ≤ p ∧ p < 4) (hl : 0 ≤ l ∧ l < 60) (hx : -1 ≤ x) : sbO a p l x = -1 ∨ (0 ≤ sbO a p l x ∧ sbO a p l x ≤ a 2 284 l) := by
  have len := g.1.2.2.1 l hl.1 hl.2
  have q := sbF_in (L := mCL a p l) (x := x) (z := if a 2 284 l ≤ x then -1 else a 2 284 l) (N := a 2 284 l) (fun k u v => (mCL_c g hp hl u v).1.2) (mCL a p l).length 0 (Int.le_refl _) (by omega)
  have e : sbO a p l x = sbF (mCL a p l) x (if a 2 284 l ≤ x then -1 else a 2 284 l) (mCL a p l).length 0 := rfl
  rcases q with q | q
  · rw [e, q]; split <;> omega
  · omega
theorem isP_Ah (g : iG a) (hp : 0 ≤ p ∧ p < 4) : isP a (gAh a p) := by
  have gl := g.1.2.1
  have c := cu_in g hp
  have len := g.1.2.2.1 (cuL a p) c.1.1 (by omega)
  have s := saF_in (L := mCL a p (cuL a p)) (x := cuX a p) (N := a 2 284 (cuL a p) + 1) (fun k u v => by have := (mCL_c g hp (l := cuL a p) ⟨c.1.1, by omega⟩ u v).1.2; omega) (mCL a p (cuL a p)).length 0 (-1) (Int.le_refl _) (by omega) (Int.le_refl _) (by omega)
  have d := bsD_in (a := a) (p := p) (cuL a p).toNat
  unfold gAh
  split
  · split
    · exact isP_cu g hp
    · rename_i z1 z2
      have d := d.resolve_left z2
      have len2 := g.1.2.2.1 (bsD a p (cuL a p).toNat) d.1 (by omega)
      exact ⟨⟨d.1, by show bsD a p (cuL a p).toNat < _; omega⟩, len2.1, Int.le_refl _⟩
  · rename_i z1
    exact ⟨c.1, by show 0 ≤ saF _ _ _ _ _; omega, by show saF _ _ _ _ _ ≤ a 2 284 (cuL a p); omega⟩
theorem isP_Be (g : iG a) (hp : 0 ≤ p ∧ p < 4) : isP a (gBe a p) := by
  have gl := g.1.2.1
  have c := cu_in g hp
  have s1 := sbO_in g hp (l := cuL a p) (x := cuX a p) ⟨c.1.1, by omega⟩ (by omega)
  have d := bsU_in (a := a) (p := p) (a 1504 282 0 - (cuL a p + 1)).toNat (cuL a p + 1)
  have e : bsO a p (cuL a p) = bsU a p (a 1504 282 0 - (cuL a p + 1)).toNat (cuL a p + 1) := rfl
  rw [← e] at d
  unfold gBe
  split
  · split
    · exact isP_cu g hp
    · rename_i z1 z2
      have d := d.resolve_left z2
      have len2 := g.1.2.2.1 (bsO a p (cuL a p)) (by omega) (by omega)
      have q := sbF_in (L := mCL a p (bsO a p (cuL a p))) (x := -1) (z := if a 2 284 (bsO a p (cuL a p)) ≤ -1 then -1 else a 2 284 (bsO a p (cuL a p))) (N := a 2 284 (bsO a p (cuL a p))) (fun k u v => (mCL_c g hp (l := bsO a p (cuL a p)) ⟨by omega, by omega⟩ u v).1.2) (mCL a p (bsO a p (cuL a p))).length 0 (Int.le_refl _) (by omega)
      have es : sbO a p (bsO a p (cuL a p)) (-1) = sbF (mCL a p (bsO a p (cuL a p))) (-1) (if a 2 284 (bsO a p (cuL a p)) ≤ -1 then -1 else a 2 284 (bsO a p (cuL a p))) (mCL a p (bsO a p (cuL a p))).length 0 := rfl
      rw [← es, if_neg (by omega)] at q
      exact ⟨⟨by show 0 ≤ bsO a p (cuL a p); omega, by show bsO a p (cuL a p) < _; omega⟩, by show 0 ≤ sbO _ _ _ _; omega, by show sbO _ _ _ _ ≤ a 2 284 (bsO a p (cuL a p)); omega⟩
  · rename_i z1
    have s1 := s1.resolve_left z1
    exact ⟨c.1, s1⟩
theorem rTo_in (g : iG a) (hp : 0 ≤ p ∧ p < 4) {y : Int} : isRw a p (rTo a p y) := by
  have c := isRw_all.mp (cu_in g hp).2.2.2.1
  refine isRw_all.mpr ?_
  unfold rTo
  split
  · omega
  · split <;> omega
theorem isP_up (g : iG a) (hp : 0 ≤ p ∧ p < 4) {r : Int} (hr : isRw a p r) : isP a ((mLn a p r : Int), upR a p r x) := by
  have l1 := (rw_in g.1 hp hr).1
  exact ⟨⟨l1.1, l1.2.1⟩, upR_in g hp hr⟩
theorem isP_Rw (g : iG a) (hp : 0 ≤ p ∧ p < 4) {y : Int} : isP a (gRw a p y) := by
  unfold gRw
  split
  · exact isP_cu g hp
  · exact isP_up g hp (rTo_in g hp)
theorem isP_Ho (g : iG a) (hp : 0 ≤ p ∧ p < 4) : isP a (gHo a p) := by
  have c := (cu_in g hp).2.2.2.1
  have l1 := (rw_in g.1 hp c).1
  exact ⟨⟨l1.1, l1.2.1⟩, plR_in g hp c⟩
theorem lpR_in (g : iG a) (hp : 0 ≤ p ∧ p < 4) {r : Int} (hr : isRw a p r) : -1 ≤ lpR a p r ∧ lpR a p r ≤ a 2 284 (mLn a p r) := by
  obtain ⟨l1, j1, j2, v, -⟩ := rw_in g.1 hp hr
  have ss := rS_in g.1 hp (l := mLn a p r) (rwJ a p r)
  have len := g.1.2.2.1 (mLn a p r) (by omega) (by omega)
  have s := lpM_in (L := mCL a p (mLn a p r)) (N := a 2 284 (mLn a p r) + 1) (fun k u v => by have := (mCL_c g hp (l := mLn a p r) ⟨by omega, by omega⟩ u v).1; omega) (rS a p (mLn a p r) (rwJ a p r + 1) - rS a p (mLn a p r) (rwJ a p r)).toNat (rS a p (mLn a p r) (rwJ a p r)) (-1) ss.1 (by omega) (Int.le_refl _) (by omega)
  unfold lpR
  split <;> omega
theorem isP_En (g : iG a) (hp : 0 ≤ p ∧ p < 4) : isP a (gEn a p) := by
  have c := (cu_in g hp).2.2.2.1
  have l1 := (rw_in g.1 hp c).1
  have s := lpR_in g hp c
  unfold gEn
  split
  · exact isP_cu g hp
  · rename_i z
    exact ⟨⟨l1.1, l1.2.1⟩, by show 0 ≤ lpR a p (cuR a p); omega, s.2⟩
theorem iG_chP (g : iG a) {q : Int × Int} (z : isP a q) : iG (tCh a p q.1 q.2) := iG_ch g z.1 z.2
/-- a move -/
noncomputable def gMv (a : vH) (p mv : Int) : Int × Int := if mv = 0 then gAh a p else if mv = 1 then gBe a p else if mv = 2 then gRw a p (-1) else if mv = 3 then gRw a p 1 else if mv = 4 then gHo a p else if mv = 5 then gEn a p else if mv = 6 then gRw a p (-a 2 310 p) else gRw a p (a 2 310 p)
noncomputable def mvd (a : vH) (p mv : Int) : Int := b2i (¬ ((gMv a p mv).1 = cuL a p ∧ (gMv a p mv).2 = cuX a p))
noncomputable def tM1 (a : vH) (p mv : Int) : vH := tCh a p (gMv a p mv).1 (gMv a p mv).2
noncomputable def tM2 (a : vH) (p mv : Int) : vH := if mv = 2 ∨ mv = 3 ∨ ¬ (mv < 6) then tWn (tM1 a p mv) p (tM1 a p mv 2 307 p) else tWn (tM1 a p mv) p (cuC (tM1 a p mv) p)
noncomputable def tMk (a : vH) (p mv : Int) : vH := if mvd a p mv = 0 then tM2 a p mv else tLk (tM2 a p mv) p
theorem isP_Mv (g : iG a) (hp : 0 ≤ p ∧ p < 4) {mv : Int} : isP a (gMv a p mv) := by
  unfold gMv
  split
  · exact isP_Ah g hp
  split
  · exact isP_Be g hp
  split
  · exact isP_Rw g hp
  split
  · exact isP_Rw g hp
  split
  · exact isP_Ho g hp
  split
  · exact isP_En g hp
  split
  · exact isP_Rw g hp
  · exact isP_Rw g hp
theorem iG_M2 (g : iG a) (hp : 0 ≤ p ∧ p < 4) {mv : Int} : iG (tM2 a p mv) := by
  have g1 : iG (tM1 a p mv) := iG_chP g (isP_Mv g hp)
  unfold tM2
  split
  · exact iG_wn g1
  · exact iG_wn g1
theorem M2_H {mv q : Int} : tM2 a p mv 2 310 q = a 2 310 q := by
  have e1 : tM1 a p mv 2 310 q = a 2 310 q := by
    unfold tM1 tCh
    split
    · rfl
    · exact (vup_r (by decide)).trans (vup_r (by decide))
  unfold tM2
  split
  · exact (vup_r (by decide)).trans e1
  · exact (vup_r (by decide)).trans e1
theorem iG_Mk (g : iG a) (hp : 0 ≤ p ∧ p < 4) (hH : 1 ≤ a 2 310 p ∧ a 2 310 p ≤ 24) {mv : Int} : iG (tMk a p mv) := by
  unfold tMk
  split
  · exact iG_M2 g hp
  · exact iG_lk (iG_M2 g hp) hp (by rw [M2_H]; exact hH)
end MGO

