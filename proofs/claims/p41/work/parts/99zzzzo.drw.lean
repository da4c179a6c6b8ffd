/-! what was drawn need not be drawn again -/
section DRW9
variable {h a b : vH} {n m p t k v : Int}
theorem bdS_in (hH : 0 ≤ a 2 310 p) : ∀ j : Nat, (-(j : Int) ≤ (bdS a p t j).1 ∧ (bdS a p t j).1 ≤ j) ∧ (0 ≤ (bdS a p t j).2 ∧ (bdS a p t j).2 ≤ a 2 310 p)
  | 0 => by
    have d := tD_in (a := a) (p := p) (t := t) (by_ := 0) (a 2 310 p).toNat
    refine ⟨⟨?_, ?_⟩, ?_⟩
    · show -((0 : Nat) : Int) ≤ 0; omega
    · show (0 : Int) ≤ ((0 : Nat) : Int); omega
    · show 0 ≤ tD a p t 0 (a 2 310 p).toNat ∧ tD a p t 0 (a 2 310 p).toNat ≤ a 2 310 p
      omega
  | j + 1 => by
    obtain ⟨i1, i2⟩ := bdS_in hH j
    have d1 := tD_in (a := a) (p := p) (t := t) (by_ := (j : Int) + 1) (a 2 310 p).toNat
    have d2 := tD_in (a := a) (p := p) (t := t) (by_ := -((j : Int) + 1)) (a 2 310 p).toNat
    have e : bdS a p t (j + 1) = bdU (bdU (bdS a p t j) ((j : Int) + 1) (tD a p t ((j : Int) + 1) (a 2 310 p).toNat)) (-((j : Int) + 1)) (tD a p t (-((j : Int) + 1)) (a 2 310 p).toNat) := rfl
    rw [e]
    unfold bdU
    refine ⟨?_, ?_⟩ <;> dsimp only <;> repeat' split <;> omega
theorem bdS_0 (z : tD a p t 0 (a 2 310 p).toNat = 0) : ∀ j : Nat, bdS a p t j = (0, 0)
  | 0 => by
    show (0, tD a p t 0 (a 2 310 p).toNat) = _
    rw [z]
  | j + 1 => by
    have d1 := tD_in (a := a) (p := p) (t := t) (by_ := (j : Int) + 1) (a 2 310 p).toNat
    have d2 := tD_in (a := a) (p := p) (t := t) (by_ := -((j : Int) + 1)) (a 2 310 p).toNat
    have e : bdS a p t (j + 1) = bdU (bdU (bdS a p t j) ((j : Int) + 1) (tD a p t ((j : Int) + 1) (a 2 310 p).toNat)) (-((j : Int) + 1)) (tD a p t (-((j : Int) + 1)) (a 2 310 p).toNat) := rfl
    rw [e, bdS_0 z j]
    unfold bdU
    dsimp only
    rw [if_pos d1.1, if_pos d1.1, if_pos d2.1, if_pos d2.1]
theorem dr_qA : eqA a (tDr a p t) := ⟨fun r i e e2 => dr_o (by omega), dr_o (by decide), dr_sx⟩
theorem dN_qe (y : eqA a b) : dN b p t k = dN a p t k := by unfold dN; rw [mAll_eq y, vCt_eq y.1]
theorem dM_qe (y : eqA a b) : dM b p t k = dM a p t k := by unfold dM; rw [mAll_eq y, mkV_eq y]
theorem tD_0 (g : iG a) (hp : 0 ≤ p ∧ p < 4) (ht : 0 ≤ t) : ∀ j : Nat, (j : Int) ≤ a 2 310 p → tD (tDr a p t) p t 0 j = 0
  | 0, _ => rfl
  | j + 1, hj => by
    have ih := tD_0 g hp ht j (by omega)
    have y : eqA a (tDr a p t) := dr_qA
    have s : sameR (tDr a p t) p t (j : Int) ((j : Int) + 0) := by
      rw [Int.add_zero]
      refine ⟨⟨by omega, by rw [dr_329, if_pos rfl]; omega⟩, ⟨?_, ?_⟩, fun c u w => ?_⟩
      · rw [dN_qe y, dr_327, if_pos (by omega), show 24 * p + (j : Int) - 24 * p = j by omega]
      · rw [dM_qe y, dr_328, if_pos (by omega), show 24 * p + (j : Int) - 24 * p = j by omega]
      · rw [dN_qe y] at w
        have d := dN_in g hp ht (k := (j : Int)) (by omega)
        rw [pkV_eq y.1]
        exact (dr_326 ⟨by omega, by omega⟩ ⟨u, by omega⟩ w).symm
    show tD (tDr a p t) p t 0 j + (if b2i (sameR (tDr a p t) p t (j : Int) ((j : Int) + 0)) = 0 then 1 else 0) = 0
    rw [ih, b2i_t s]
    rfl
theorem dw_th : vDw (th 0 a) p = vDw a p := by
  have e : th 0 (th 0 a) = th 0 a := by
    funext k r i
    unfold th
    by_cases z : k = 1500 ∧ r = 282 ∧ i = 0
    · exact (if_pos z).trans (if_pos z).symm
    · exact (if_neg z).trans rfl
  unfold vDw
  rw [e, toR_th]
/-- a pane is drawn: how many rows were told, and by how much it was shifted; nothing is told the next time -/
def dwP (a b : vH) (p v : Int) : Prop := (0 ≤ v ∧ v ≤ a 2 310 p) ∧ (-24 < b 2 330 p ∧ b 2 330 p < 24) ∧ (∀ i, b 2 289 i = a 2 289 i) ∧ vDw b p = 0 ∧ (tDw b p) 2 330 p = 0
theorem dw_sp (x : iA a) (hp : 0 ≤ p ∧ p < 4) (ho : ¬ a 2 289 p = 0) : kDw a p = 0 ∧ dwP a (tDw a p) p (vDw a p) := by
  have k := kDw_0.mpr ⟨hp, ho⟩
  have e : tDw a p = tDr (th 0 a) p (toR a p) := if_pos k
  have hH : 1 ≤ a 2 310 p ∧ a 2 310 p ≤ 24 := hO x.2.1 hp ho
  have g0 : iG (th 0 a) := iG_tk x.1
  have t0 : 0 ≤ toR a p := (to_in x.1 hp).1
  have B := bdS_in (a := th 0 a) (p := p) (t := toR a p) (by show 0 ≤ a 2 310 p; omega) 23
  have s : tDr (th 0 a) p (toR a p) 2 330 p = (bdS (th 0 a) p (toR a p) 23).1 := vup_s
  have y : eqA (th 0 a) (tDr (th 0 a) p (toR a p)) := dr_qA
  have o2 : ∀ i, tDr (th 0 a) p (toR a p) 2 289 i = a 2 289 i := fun i => dr_o (by decide)
  have h2 : tDr (th 0 a) p (toR a p) 2 310 p = a 2 310 p := dr_o (by decide)
  have tr : toR (tDr (th 0 a) p (toR a p)) p = toR a p := by
    have q : toR (tDr (th 0 a) p (toR a p)) p = toR (th 0 a) p := toR_eq y.1 ⟨dr_o (by decide), dr_o (by decide)⟩
    rw [q, toR_th]
  have z : tD (th 0 (tDr (th 0 a) p (toR a p))) p (toR a p) 0 (th 0 (tDr (th 0 a) p (toR a p)) 2 310 p).toNat = 0 := by
    have h3 : th 0 (tDr (th 0 a) p (toR a p)) 2 310 p = a 2 310 p := h2
    rw [h3]
    have q := tD_0 g0 hp t0 (a 2 310 p).toNat (by show (((a 2 310 p).toNat : Nat) : Int) ≤ a 2 310 p; omega)
    have e9 : th 0 (tDr (th 0 a) p (toR a p)) = tDr (th 0 a) p (toR a p) := by
      funext k r i
      by_cases w : k = 1500 ∧ r = 282 ∧ i = 0
      · obtain ⟨w1, w2, w3⟩ := w
        subst w1; subst w2; subst w3
        have e5 : tDr (th 0 a) p (toR a p) 1500 282 0 = th 0 a 1500 282 0 := dr_o (by decide)
        rw [e5]
        rfl
      · exact if_neg w
    rw [e9]
    exact q
  have b0 := bdS_0 z 23
  refine ⟨k, ?_⟩
  rw [e]
  refine ⟨?_, ?_, o2, ?_, ?_⟩
  · exact B.2
  · rw [s]
    have := B.1
    omega
  · show (bdS (th 0 (tDr (th 0 a) p (toR a p))) p (toR (tDr (th 0 a) p (toR a p)) p) 23).2 = 0
    rw [tr, b0]
  · have k2 := kDw_0.mpr ⟨hp, (by rw [o2]; exact ho : ¬ tDr (th 0 a) p (toR a p) 2 289 p = 0)⟩
    have e2 : tDw (tDr (th 0 a) p (toR a p)) p = tDr (th 0 (tDr (th 0 a) p (toR a p))) p (toR (tDr (th 0 a) p (toR a p)) p) := if_pos k2
    rw [e2, tr]
    have s2 : tDr (th 0 (tDr (th 0 a) p (toR a p))) p (toR a p) 2 330 p = (bdS (th 0 (tDr (th 0 a) p (toR a p))) p (toR a p) 23).1 := vup_s
    rw [s2, b0]
/-- the call by way of the law's own methods -/
theorem O_draw (j : JG n m h a) (hp : 0 ≤ p ∧ p < 4) (ho : ¬ a 2 289 p = 0) : ∃ h1, vcl mL_on [(1, 3), (0, 11), (0, p), (0, 0), (0, 0), (0, 0)] h = some (.inl (some (0, vDw a p)), h1) ∧ JG (n + 1) (m + 1) h1 (tDw a p) := by
  have x := j.2.1.1
  have s := jPL j
  obtain ⟨h1, c1, c2⟩ := S_e j (cN_of j.2.2.1 (Cq_draw (p := p) j.1 x.1 x.2.2)) (iP_draw (p := p) j.2.1)
  rw [if_pos (dw_sp x.1 hp ho).1] at c1
  exact ⟨h1, onv s (asv_draw s c1), c2⟩
theorem O_drawX (j : JG n m h a) (hp : 0 ≤ p ∧ p < 4) (ho : a 2 289 p = 0) : ∃ h1, vcl mL_on [(1, 3), (0, 11), (0, p), (0, 0), (0, 0), (0, 0)] h = some (.inl (some (0, -13)), h1) ∧ JG (n + 1) (m + 1) h1 (tDw a p) := by
  have x := j.2.1.1
  have s := jPL j
  obtain ⟨h1, c1, c2⟩ := S_e j (cN_of j.2.2.1 (Cq_draw (p := p) j.1 x.1 x.2.2)) (iP_draw (p := p) j.2.1)
  have k : kDw a p = 2 := by unfold kDw; rw [if_pos hp, if_pos ho]
  rw [k] at c1
  exact ⟨h1, onx s (asx_draw s c1), c2⟩
end DRW9
