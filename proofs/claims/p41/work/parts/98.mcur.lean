/-! the cursors of the reference: what is read -/
/-- two heaps whose texts, panes and layers of the reference are the same -/
def eqA (a b : vH) : Prop := pR a b ∧ b 1504 282 0 = a 1504 282 0 ∧ sx a b
theorem eqA_rf {a : vH} : eqA a a := ⟨pR_rf, rfl, sx_rf⟩
theorem eqA_up {a b : vH} {r i v : Int} (x : eqA a b) (hr : 305 ≤ r) : eqA a (vup b 2 r i v) := ⟨fun r' i' e f => (vup_r (by omega)).trans (x.1 r' i' e f), (vup_k (by decide)).trans x.2.1, sx_up rfl x.2.2⟩
abbrev sT : List Nat := 1500 :: sK
theorem eqA_sT {a b : vH} (x : mF sA sT a b) : eqA a b := ⟨mF_pR x (by decide) (by decide), x _ _ _ (by simp) (by simp), mF_sx x (by decide)⟩
theorem mG_a {a b : vH} (x : eqA a b) (g : mG a) : mG b := by
  obtain ⟨g1, g2, g3, g4⟩ := g
  have y := x.1
  refine ⟨shModel_sx x.2.2 g1, by rw [x.2.1]; exact g2, fun l u v => ?_, fun p u v => ?_⟩
  · rw [y _ _ (by decide) (by decide)]; exact g3 l u v
  · rw [y _ _ (by decide) (by decide), y _ _ (by decide) (by decide)]
    exact ⟨mOKp_eq y (g4 p u v).1, (g4 p u v).2⟩
theorem iG_a {a b : vH} (x : eqA a b) (g : iG a) (c : ∀ p, 0 ≤ p → p < 4 → (0 ≤ b 2 305 p ∧ b 2 305 p < a 1504 282 0 ∧ 0 ≤ b 2 306 p ∧ b 2 306 p ≤ a 2 284 (b 2 305 p)) ∧ (0 ≤ b 2 308 p ∧ b 2 308 p < a 1504 282 0 ∧ 0 ≤ b 2 309 p ∧ b 2 309 p ≤ a 2 284 (b 2 308 p))) : iG b := by
  have y := x.1
  have len : ∀ i, b 2 284 i = a 2 284 i := fun i => y _ _ (by decide) (by decide)
  have ln := x.2.1
  refine ⟨mG_a x g.1, fun p u v => ?_⟩
  obtain ⟨g1, g2, g3, g4, g5, g6⟩ := g.2 p u v
  obtain ⟨c1, c2⟩ := c p u v
  refine ⟨fun k s t => ?_, fun k s t => ?_, fun k s t => ?_, ?_, ?_, ?_⟩
  · rw [y 301 _ (by decide) (by decide)] at t
    rw [y 302 _ (by decide) (by decide), y 303 _ (by decide) (by decide), ln]
    exact g1 k s t
  · rw [y 293 _ (by decide) (by decide)] at t
    rw [y 294 _ (by decide) (by decide), y 295 _ (by decide) (by decide), y 296 _ (by decide) (by decide), len, ln]
    exact g2 k s t
  · rw [y 297 _ (by decide) (by decide)] at t
    rw [y 298 _ (by decide) (by decide), y 299 _ (by decide) (by decide), len, ln]
    exact g3 k s t
  · rw [ln, len]; exact c1
  · rw [ln, len]; exact c2
  · rw [y 288 _ (by decide) (by decide)]; exact g6
/-- clusters lie in their line -/
def cluC (n : Int) (c : Clu) : Prop := c.2.2.1 < n ∧ c.2.2.2 ≤ n
theorem mVt_C {a : vH} {l lo hi N : Int} (hN : 0 ≤ N) : ∀ (n : Nat) (k : Int), (∀ i, k ≤ i → i < k + n → a 2 298 i = l → a 2 299 i ≤ N) → ∀ c ∈ mVt a l lo hi n k, c.2.2.1 = -1 ∧ c.2.2.2 ≤ N
  | 0, _, _, c, hc => by cases hc
  | n + 1, k, hv, c, hc => by
    have e : mVt a l lo hi (n + 1) k = @ite _ (mVon a l lo hi k) (Classical.propDecidable _) ((vch (a 2 300 k) 8 0).map (fun s => (s, 1, -1, a 2 299 k))) [] ++ mVt a l lo hi n (k + 1) := rfl
    rw [e] at hc
    rcases List.mem_append.mp hc with z | z
    · by_cases on : mVon a l lo hi k
      · rw [if_pos on] at z
        obtain ⟨s, -, rfl⟩ := List.mem_map.mp z
        exact ⟨rfl, hv k (Int.le_refl _) (by omega) on.1⟩
      · rw [if_neg on] at z; cases z
    · exact mVt_C hN n (k + 1) (fun i u v w => hv i (by omega) (by omega) w) c z
/-- they stand in the order of the text -/
def cluO (c d : Clu) : Prop := c.2.2.1 = -1 ∨ d.2.2.1 = -1 ∨ c.2.2.1 < d.2.2.1
theorem pw_one {L : List Clu} (h : ∀ c ∈ L, c.2.2.1 = -1) : L.Pairwise cluO := by
  induction L with
  | nil => exact List.Pairwise.nil
  | cons c L ih => exact List.Pairwise.cons (fun d _ => Or.inl (h c List.mem_cons_self)) (ih (fun d hd => h d (List.mem_cons_of_mem _ hd)))
theorem mTx_C {a : vH} {p l : Int} (hl : 0 ≤ a 2 284 l ∧ a 2 284 l ≤ 80) (hv : ∀ i, 6 * p ≤ i → i < 6 * p + (a 2 297 p).toNat → a 2 298 i = l → a 2 299 i ≤ a 2 284 l) : ∀ (n : Nat) (lo k : Int), 0 ≤ k → (∀ c ∈ mTx a p l n lo k, cluC (a 2 284 l) c ∧ (c.2.2.1 = -1 ∨ k ≤ c.2.2.1)) ∧ (mTx a p l n lo k).Pairwise cluO
  | n, lo, k, hk => by
    have vt : ∀ {x y : Int}, ∀ c ∈ mVt a l x y (a 2 297 p).toNat (6 * p), cluC (a 2 284 l) c ∧ c.2.2.1 = -1 := by
      intro x y c z
      have := mVt_C hl.1 _ _ hv c z
      exact ⟨⟨by omega, this.2⟩, this.1⟩
    have fin0 : ∀ {x : Int}, ∀ c ∈ mVt a l x 80 (a 2 297 p).toNat (6 * p) ++ mDots a p l, cluC (a 2 284 l) c ∧ c.2.2.1 = -1 := by
      intro x c hc
      rcases List.mem_append.mp hc with z | z
      · exact vt c z
      · unfold mDots at z
        by_cases f : mFst a p l
        · rw [if_pos f] at z
          have e : c = (46, 1, -1, a 2 284 l) := by simpa using z
          subst e
          exact ⟨⟨by show (-1 : Int) < a 2 284 l; omega, Int.le_refl _⟩, rfl⟩
        · rw [if_neg f] at z; cases z
    have fin : ∀ {x : Int}, (∀ c ∈ mVt a l x 80 (a 2 297 p).toNat (6 * p) ++ mDots a p l, cluC (a 2 284 l) c ∧ (c.2.2.1 = -1 ∨ k ≤ c.2.2.1)) ∧ (mVt a l x 80 (a 2 297 p).toNat (6 * p) ++ mDots a p l).Pairwise cluO :=
      ⟨fun c hc => ⟨(fin0 c hc).1, Or.inl (fin0 c hc).2⟩, pw_one (fun c hc => (fin0 c hc).2)⟩
    match n with
    | 0 => exact fin
    | n + 1 =>
      have e : mTx a p l (n + 1) lo k = if a 2 284 l ≤ k then mVt a l lo 80 (a 2 297 p).toNat (6 * p) ++ mDots a p l else
        mVt a l lo k (a 2 297 p).toNat (6 * p) ++ (@ite _ (mHid a p l k) (Classical.propDecidable _) [] [(a 2 283 (80 * l + k), mEnd a l 80 (k + 1) - k, k, k)] ++ mTx a p l n (k + 1) (mEnd a l 80 (k + 1))) := rfl
      rw [e]
      by_cases c : a 2 284 l ≤ k
      · rw [if_pos c]; exact fin
      · rw [if_neg c]
        have g1 := mEnd_ge (a := a) (l := l) 80 (k + 1)
        obtain ⟨i1, i2⟩ := mTx_C hl hv n (k + 1) (mEnd a l 80 (k + 1)) (by omega)
        have own : ∀ c ∈ (@ite _ (mHid a p l k) (Classical.propDecidable _) [] [(a 2 283 (80 * l + k), mEnd a l 80 (k + 1) - k, k, k)] : List Clu), c.2.2.1 = k ∧ c.2.2.2 = k := by
          intro c z
          by_cases hd : mHid a p l k
          · rw [if_pos hd] at z; cases z
          · rw [if_neg hd] at z
            have e : c = (a 2 283 (80 * l + k), mEnd a l 80 (k + 1) - k, k, k) := by simpa using z
            subst e
            exact ⟨rfl, rfl⟩
        have rest : ∀ c ∈ (@ite _ (mHid a p l k) (Classical.propDecidable _) [] [(a 2 283 (80 * l + k), mEnd a l 80 (k + 1) - k, k, k)] : List Clu) ++ mTx a p l n (k + 1) (mEnd a l 80 (k + 1)), cluC (a 2 284 l) c ∧ (c.2.2.1 = -1 ∨ k ≤ c.2.2.1) := by
          intro c z
          rcases List.mem_append.mp z with z | z
          · have := own c z
            exact ⟨⟨by omega, by omega⟩, Or.inr (by omega)⟩
          · have := i1 c z
            exact ⟨this.1, this.2.imp (fun w => w) (fun w => by omega)⟩
        refine ⟨fun c z => ?_, ?_⟩
        · rcases List.mem_append.mp z with z | z
          · exact ⟨(vt c z).1, Or.inl (vt c z).2⟩
          · exact rest c z
        · refine List.pairwise_append.mpr ⟨pw_one (fun c z => (vt c z).2), List.pairwise_append.mpr ⟨?_, i2, fun c z d w => ?_⟩, fun c z d w => Or.inl (vt c z).2⟩
          · by_cases hd : mHid a p l k
            · rw [if_pos hd]; exact List.Pairwise.nil
            · rw [if_neg hd]; exact List.pairwise_singleton _ _
          · have o := own c z
            rcases (i1 d w).2 with q | q
            · exact Or.inr (Or.inl q)
            · exact Or.inr (Or.inr (by omega))
section MCU
variable {a b h : vH} {p l x : Int}
theorem mCL_C (g : iG a) (hp : 0 ≤ p ∧ p < 4) (hl : 0 ≤ l ∧ l < 60) : (∀ c ∈ mCL a p l, cluC (a 2 284 l) c) ∧ (mCL a p l).Pairwise cluO := by
  have gv := (g.2 p hp.1 hp.2).2.2.1
  have q := mTx_C (a := a) (p := p) (l := l) (g.1.2.2.1 l hl.1 hl.2) (fun i u v w => by have := gv i u (by omega); rw [w] at this; exact this.2.2.2) 81 0 0 (Int.le_refl _)
  exact ⟨fun c hc => (q.1 c hc).1, q.2⟩
theorem mCL_c (g : iG a) (hp : 0 ≤ p ∧ p < 4) (hl : 0 ≤ l ∧ l < 60) {k : Int} (h0 : 0 ≤ k) (hk : k < (mCL a p l).length) : (-1 ≤ bg (mCL a p l) k ∧ bg (mCL a p l) k < a 2 284 l) ∧ 0 ≤ tl (mCL a p l) k ∧ tl (mCL a p l) k ≤ a 2 284 l := by
  have m := getD_mem (L := mCL a p l) h0 hk
  have c1 := (mCL_C g hp hl).1 _ m
  have c2 := mCL_B (g.1.2.2.1 l hl.1 hl.2) _ m
  exact ⟨⟨c2.2.2.1, c1.1⟩, c2.2.2.2.2.1, c1.2⟩
theorem mR_is (g : mG a) (hp : 0 ≤ p ∧ p < 4) (hl : 0 ≤ l ∧ l < 60) : ∃ R : Nat, isR (sg (mCL a p l)) (mCL a p l).length (a 2 286 p) (a 2 287 p) R ∧ R ≤ 131 ∧ (¬ mInv a p l → mRC a p l = (R : Int)) := by
  obtain ⟨R, -, r⟩ := P_rows g hp hl
  refine ⟨R, r.1, r.2, fun z => ?_⟩
  unfold mRC
  rw [if_neg z, rC_eq r.1]
theorem mRA_le (g : mG a) (hp : 0 ≤ p ∧ p < 4) : ∀ (n l : Nat), l ≤ n → n ≤ 60 → mRA a p l ≤ mRA a p n
  | 0, l, h, _ => by rw [Nat.le_zero.mp h]; exact Int.le_refl _
  | n + 1, l, h, hn => by
    by_cases e : l = n + 1
    · rw [e]; exact Int.le_refl _
    · have := mRA_le g hp n l (by omega) (by omega)
      have b := mRC_in g hp (l := n) ⟨by omega, by omega⟩
      show mRA a p l ≤ mRA a p n + mRC a p n
      omega
theorem mLn_un (g : mG a) (hp : 0 ≤ p ∧ p < 4) {r : Int} {l : Nat} (hl : (l : Int) < a 1504 282 0) (h1 : mRA a p l ≤ r) (h2 : r < mRA a p l + mRC a p l) : isRw a p r ∧ mLn a p r = l := by
  have gl := g.2.1
  have r0 := mRA_in g hp l (by omega)
  have e1 : mRA a p (l + 1) = mRA a p l + mRC a p l := rfl
  have m1 := mRA_le g hp (a 1504 282 0).toNat (l + 1) (by omega) (by omega)
  have hr : isRw a p r := ⟨by omega, by omega⟩
  have q := mLn_in g hr
  have e2 : mRA a p (mLn a p r + 1) = mRA a p (mLn a p r) + mRC a p (mLn a p r) := rfl
  refine ⟨hr, ?_⟩
  by_cases c1 : mLn a p r < l
  · have := mRA_le g hp l (mLn a p r + 1) (by omega) (by omega)
    omega
  · by_cases c2 : l < mLn a p r
    · have := mRA_le g hp (mLn a p r) (l + 1) (by omega) (by omega)
      omega
    · omega
/-- the visible line that stands for a line -/
noncomputable def mVs (a : vH) (p : Int) : Nat → Nat
  | 0 => 0
  | l + 1 => @ite _ (mInv a p ((l + 1 : Nat) : Int)) (Classical.propDecidable _) (mVs a p l) (l + 1)
theorem mInv0 (g : iG a) (hp : 0 ≤ p ∧ p < 4) : ¬ mInv a p 0 := by
  rintro ⟨k, k1, k2, -, k4, -⟩
  have := ((g.2 p hp.1 hp.2).1 k k1 k2).1
  omega
theorem mVs_in (i0 : ¬ mInv a p 0) : ∀ l : Nat, mVs a p l ≤ l ∧ ¬ mInv a p (mVs a p l : Int) ∧ (¬ mInv a p (l : Int) → mVs a p l = l)
  | 0 => ⟨Nat.le_refl _, i0, fun _ => rfl⟩
  | l + 1 => by
    have ih := mVs_in i0 l
    have e : mVs a p (l + 1) = @ite _ (mInv a p ((l + 1 : Nat) : Int)) (Classical.propDecidable _) (mVs a p l) (l + 1) := rfl
    rw [e]
    by_cases c : mInv a p ((l + 1 : Nat) : Int)
    · rw [if_pos c]; exact ⟨by omega, ih.2.1, fun z => absurd c z⟩
    · rw [if_neg c]; exact ⟨Nat.le_refl _, c, fun _ => rfl⟩
theorem mVs_eq (y : pR a b) : ∀ l : Nat, mVs b p l = mVs a p l
  | 0 => rfl
  | l + 1 => by
    have ih := mVs_eq y l
    have e : ∀ a : vH, mVs a p (l + 1) = @ite _ (mInv a p ((l + 1 : Nat) : Int)) (Classical.propDecidable _) (mVs a p l) (l + 1) := fun _ => rfl
    rw [e, e, mInv_eq y, ih]
noncomputable def vsL (a : vH) (p l : Int) : Int := (mVs a p l.toNat : Int)
noncomputable def vsX (a : vH) (p l x : Int) : Int := @ite _ (mInv a p l) (Classical.propDecidable _) 0 x
noncomputable def dnR (a : vH) (p l x s : Int) : Int := mRA a p l.toNat + dRow (mCL a p l) (a 2 286 p) (a 2 287 p) x s
noncomputable def dnC (a : vH) (p l x s : Int) : Int := dCol (mCL a p l) (a 2 286 p) (a 2 287 p) x s
/-- the cursor and the top, as they are taken -/
noncomputable def cuL (a : vH) (p : Int) : Int := vsL a p (a 2 305 p)
noncomputable def cuX (a : vH) (p : Int) : Int := vsX a p (a 2 305 p) (a 2 306 p)
noncomputable def cuR (a : vH) (p : Int) : Int := dnR a p (cuL a p) (cuX a p) 0
noncomputable def cuC (a : vH) (p : Int) : Int := dnC a p (cuL a p) (cuX a p) 0
noncomputable def toR (a : vH) (p : Int) : Int := dnR a p (vsL a p (a 2 308 p)) (vsX a p (a 2 308 p) (a 2 309 p)) 0
theorem vsL_eq (y : pR a b) : vsL b p l = vsL a p l := by unfold vsL; rw [mVs_eq y]
theorem vsX_eq (y : pR a b) : vsX b p l x = vsX a p l x := by unfold vsX; rw [mInv_eq y]
theorem dnR_eq {s : Int} (y : pR a b) : dnR b p l x s = dnR a p l x s := by unfold dnR; rw [mRA_eq y, mCL_eq y, y _ _ (by decide) (by decide), y _ _ (by decide) (by decide)]
/-- the same cursor -/
def eqC (a b : vH) (p : Int) : Prop := b 2 305 p = a 2 305 p ∧ b 2 306 p = a 2 306 p
def eqT (a b : vH) (p : Int) : Prop := b 2 308 p = a 2 308 p ∧ b 2 309 p = a 2 309 p
theorem cuL_eq (y : pR a b) (z : eqC a b p) : cuL b p = cuL a p := by unfold cuL; rw [z.1, vsL_eq y]
theorem cuX_eq (y : pR a b) (z : eqC a b p) : cuX b p = cuX a p := by unfold cuX; rw [z.1, z.2, vsX_eq y]
theorem toR_eq (y : pR a b) (z : eqT a b p) : toR b p = toR a p := by unfold toR; rw [z.1, z.2, vsL_eq y, vsX_eq y, dnR_eq y]
theorem eqC_sT (x : mF sA sT a b) : eqC a b p := ⟨x _ _ _ (by simp) (by simp), x _ _ _ (by simp) (by simp)⟩
theorem eqT_sT (x : mF sA sT a b) : eqT a b p := ⟨x _ _ _ (by simp) (by simp), x _ _ _ (by simp) (by simp)⟩
theorem iG_sT (x : mF sA sT a b) (g : iG a) : iG b := iG_a (eqA_sT x) g (fun p u v => by
  rw [(eqC_sT x).1, (eqC_sT x).2, (eqT_sT x).1, (eqT_sT x).2]
  obtain ⟨-, -, -, g4, g5, -⟩ := g.2 p u v
  exact ⟨g4, g5⟩)
theorem vs_in (g : iG a) (hp : 0 ≤ p ∧ p < 4) (hl : 0 ≤ l ∧ l < a 1504 282 0) (hx : 0 ≤ x ∧ x ≤ a 2 284 l) : (0 ≤ vsL a p l ∧ vsL a p l < a 1504 282 0 ∧ vsL a p l ≤ l) ∧ (0 ≤ vsX a p l x ∧ vsX a p l x ≤ a 2 284 (vsL a p l)) ∧ ¬ mInv a p (vsL a p l) ∧ (¬ mInv a p l → vsL a p l = l) := by
  obtain ⟨m1, m2, m3⟩ := mVs_in (mInv0 g hp) l.toNat
  have gl := g.1.2.1
  rw [show ((l.toNat : Nat) : Int) = l by omega] at m3
  have e : vsL a p l = (mVs a p l.toNat : Int) := rfl
  have q1 : 0 ≤ vsL a p l ∧ vsL a p l < a 1504 282 0 ∧ vsL a p l ≤ l := by omega
  have len := g.1.2.2.1 (vsL a p l) q1.1 (by omega)
  have m3' : ¬ mInv a p l → vsL a p l = l := fun z => by have := m3 z; omega
  refine ⟨q1, ?_, m2, m3'⟩
  unfold vsX
  by_cases c : mInv a p l
  · rw [if_pos c]; exact ⟨Int.le_refl _, len.1⟩
  · rw [if_neg c, m3' c]; exact hx
theorem dnR_in (g : mG a) (hp : 0 ≤ p ∧ p < 4) (hl : 0 ≤ l ∧ l < a 1504 282 0) (hv : ¬ mInv a p l) {s : Int} : isRw a p (dnR a p l x s) ∧ (mLn a p (dnR a p l x s) : Int) = l := by
  have gl := g.2.1
  have gp := g.2.2.2 p hp.1 hp.2
  obtain ⟨R, r1, r2, r3⟩ := mR_is g hp (l := l) ⟨hl.1, by omega⟩
  have r3 := r3 hv
  have t := (tkC_in (L := mCL a p l) (x := x) (sd := s)).1
  have b : 0 ≤ dRow (mCL a p l) (a 2 286 p) (a 2 287 p) x s ∧ dRow (mCL a p l) (a 2 286 p) (a 2 287 p) x s < R := by
    unfold dRow
    by_cases c : tkC (mCL a p l) x s = -1
    · rw [if_pos c]
      have := r1.1
      omega
    · rw [if_neg c]
      have ci := t.resolve_left c
      have := (rowO_in gp.2.2 gp.2.1.1 r1 r2 ci.1 ci.2).1
      omega
  have e : ((l.toNat : Nat) : Int) = l := by omega
  have rc : mRC a p (l.toNat : Int) = R := by rw [e]; exact r3
  have d : dnR a p l x s = mRA a p l.toNat + dRow (mCL a p l) (a 2 286 p) (a 2 287 p) x s := rfl
  have := mLn_un g hp (r := dnR a p l x s) (l := l.toNat) (by omega) (by omega) (by omega)
  exact ⟨this.1, by omega⟩
theorem cu_in (g : iG a) (hp : 0 ≤ p ∧ p < 4) : (0 ≤ cuL a p ∧ cuL a p < a 1504 282 0) ∧ (0 ≤ cuX a p ∧ cuX a p ≤ a 2 284 (cuL a p)) ∧ ¬ mInv a p (cuL a p) ∧ isRw a p (cuR a p) ∧ (mLn a p (cuR a p) : Int) = cuL a p := by
  obtain ⟨c1, c2, c3, c4⟩ := (g.2 p hp.1 hp.2).2.2.2.1
  obtain ⟨v1, v2, v3, v4⟩ := vs_in g hp ⟨c1, c2⟩ ⟨c3, c4⟩
  have d := dnR_in g.1 hp (l := cuL a p) (x := cuX a p) (s := 0) ⟨v1.1, v1.2.1⟩ v3
  exact ⟨⟨v1.1, v1.2.1⟩, v2, v3, d⟩
theorem to_in (g : iG a) (hp : 0 ≤ p ∧ p < 4) : isRw a p (toR a p) := by
  obtain ⟨c1, c2, c3, c4⟩ := (g.2 p hp.1 hp.2).2.2.2.2.1
  obtain ⟨v1, v2, v3, v4⟩ := vs_in g hp ⟨c1, c2⟩ ⟨c3, c4⟩
  exact (dnR_in g.1 hp ⟨v1.1, v1.2.1⟩ v3).1
/-- the row of a line that a row of the pane is, and the place of a row -/
noncomputable def rwJ (a : vH) (p r : Int) : Nat := (r - mRA a p (mLn a p r)).toNat
noncomputable def rS (a : vH) (p l : Int) (j : Nat) : Int := rSt (sg (mCL a p l)) (mCL a p l).length (a 2 286 p) (a 2 287 p) j
noncomputable def plR (a : vH) (p r : Int) : Int := fpS (mCL a p (mLn a p r)) (if (rwJ a p r : Int) = mRC a p (mLn a p r) - 1 then a 2 284 (mLn a p r) else 0) (rS a p (mLn a p r) (rwJ a p r + 1) - rS a p (mLn a p r) (rwJ a p r)).toNat (rS a p (mLn a p r) (rwJ a p r))
noncomputable def upR (a : vH) (p r x : Int) : Int := upP (mCL a p (mLn a p r)) (a 2 286 p) (a 2 287 p) (a 2 284 (mLn a p r)) (rwJ a p r) x
theorem mAll_eq (y : eqA a b) : mAll b p = mAll a p := by
  unfold mAll
  rw [mRA_eq y.1, y.2.1]
theorem isRw_all {r : Int} : isRw a p r ↔ 0 ≤ r ∧ r < mAll a p := Iff.rfl
theorem rw_in (g : mG a) (hp : 0 ≤ p ∧ p < 4) {r : Int} (hr : isRw a p r) : (0 ≤ (mLn a p r : Int) ∧ (mLn a p r : Int) < a 1504 282 0 ∧ (mLn a p r : Int) < 60) ∧ (rwJ a p r : Int) = r - mRA a p (mLn a p r) ∧ (rwJ a p r : Int) < mRC a p (mLn a p r) ∧ ¬ mInv a p (mLn a p r) ∧ r < 7860 := by
  have q := mLn_in g hr
  have gl := g.2.1
  have al := mAll_in g hp
  have rl := isRw_all.mp hr
  refine ⟨by omega, by unfold rwJ; omega, by unfold rwJ; omega, fun z => ?_, by omega⟩
  have : mRC a p (mLn a p r) = 0 := if_pos z
  omega
theorem rS_in (g : mG a) (hp : 0 ≤ p ∧ p < 4) (j : Nat) : 0 ≤ rS a p l j ∧ rS a p l j ≤ rS a p l (j + 1) ∧ rS a p l (j + 1) ≤ (mCL a p l).length := by
  have gp := g.2.2.2 p hp.1 hp.2
  have p0 := rSt_in (s := sg (mCL a p l)) (n := (mCL a p l).length) (W := a 2 286 p) (d := a 2 287 p) (by omega) gp.2.2 gp.2.1.1 j
  have p1 := rSt_in (s := sg (mCL a p l)) (n := (mCL a p l).length) (W := a 2 286 p) (d := a 2 287 p) (by omega) gp.2.2 gp.2.1.1 (j + 1)
  have up := rSt_up (s := sg (mCL a p l)) (n := (mCL a p l).length) gp.2.2 gp.2.1.1 j
  unfold rS
  omega
theorem fpS_le {L : List Clu} {z N : Int} (hz : z ≤ N) (hB : ∀ k : Int, 0 ≤ k → k < L.length → bg L k ≤ N) : ∀ (f : Nat) (k : Int), 0 ≤ k → k + f ≤ L.length → fpS L z f k ≤ N
  | 0, _, _, _ => hz
  | f + 1, k, h0, hk => by
    have b := hB k h0 (by omega)
    have e : fpS L z (f + 1) k = if bg L k = -1 then fpS L z f (k + 1) else bg L k := rfl
    rw [e]
    split
    · exact fpS_le hz hB f (k + 1) (by omega) (by omega)
    · exact b
theorem plR_in (g : iG a) (hp : 0 ≤ p ∧ p < 4) {r : Int} (hr : isRw a p r) : 0 ≤ plR a p r ∧ plR a p r ≤ a 2 284 (mLn a p r) := by
  obtain ⟨l1, j1, j2, v, -⟩ := rw_in g.1 hp hr
  have ss := rS_in g.1 hp (l := mLn a p r) (rwJ a p r)
  have len := g.1.2.2.1 (mLn a p r) (by omega) (by omega)
  have z0 : 0 ≤ (if (rwJ a p r : Int) = mRC a p (mLn a p r) - 1 then a 2 284 (mLn a p r) else 0) ∧ (if (rwJ a p r : Int) = mRC a p (mLn a p r) - 1 then a 2 284 (mLn a p r) else 0) ≤ a 2 284 (mLn a p r) := by split <;> omega
  refine ⟨(fpS_in (mCL_B len) ⟨z0.1, by omega⟩ _ _ ss.1 (by omega)).1, ?_⟩
  exact fpS_le z0.2 (fun k u v => by have := (mCL_c g hp (l := mLn a p r) ⟨by omega, by omega⟩ u v).1; omega) _ _ ss.1 (by omega)
theorem upR_in (g : iG a) (hp : 0 ≤ p ∧ p < 4) {r : Int} (hr : isRw a p r) : 0 ≤ upR a p r x ∧ upR a p r x ≤ a 2 284 (mLn a p r) := by
  obtain ⟨l1, j1, j2, v, -⟩ := rw_in g.1 hp hr
  have ss := rS_in g.1 hp (l := mLn a p r) (rwJ a p r)
  have len := g.1.2.2.1 (mLn a p r) (by omega) (by omega)
  have gp := g.1.2.2.2 p hp.1 hp.2
  obtain ⟨R, r1, r2, r3⟩ := mR_is g.1 hp (l := mLn a p r) ⟨by omega, by omega⟩
  have f1 := (row_f gp.2.2 gp.2.1.1 r1 r2 (rwJ a p r)).1
  unfold rS at ss
  unfold upR upP
  generalize hL : mCL a p (mLn a p r) = L at *
  generalize a 2 286 p = W at *
  generalize a 2 287 p = d at *
  generalize rwJ a p r = j at *
  by_cases c : rSt (sg L) L.length W d j = rSt (sg L) L.length W d (j + 1)
  · rw [if_pos c]; exact ⟨len.1, Int.le_refl _⟩
  · rw [if_neg c]
    have inn : rSt (sg L) L.length W d j ≤ upC L W d j x ∧ upC L W d j x < rSt (sg L) L.length W d (j + 1) := by
      unfold upC
      rcases lsF_in (P := fun k => 0 < lW (sg L) L.length W d (lS (sg L) L.length W d k) ∧ lC (sg L) L.length W d (lS (sg L) L.length W d k) ≤ x) (q := lS (sg L) L.length W d) (rSt (sg L) L.length W d (j + 1) - rSt (sg L) L.length W d j).toNat (rSt (sg L) L.length W d j) (lS (sg L) L.length W d (rSt (sg L) L.length W d j)) with ⟨i, i1, i2, -, i4, -⟩ | ⟨-, i4⟩
      · rw [i4]; exact f1 i i1 (by omega)
      · rw [i4]; exact f1 _ (Int.le_refl _) (by omega)
    have := (mCL_c g hp (l := mLn a p r) ⟨by omega, by omega⟩ (k := upC L W d j x) (by omega) (by rw [hL]; omega)).2
    rw [hL] at this
    exact this
end MCU

