section CFI
variable {h : vH} {D y B : Int} {s : Int → Int} {n : Nat}
theorem C_setLevels {L : List Int} {F : Int → Int} (sD : shDirections h D) (sL : shLayout h y) (hyD : y + 9 < D) (hp : L.Pairwise (· < ·)) (h0 : ∀ c ∈ L, 0 ≤ c ∧ c < 131) (hc : h 207 D 0 = (L.length : Int)) (h131 : L.length ≤ 131) (hB : h 208 D 0 = B) (hB0 : 0 ≤ B ∧ B ≤ 400) (hch : ∀ i : Nat, i < L.length → h 2 (D + 3) i = gx L i) (hs : ∀ i : Nat, i < L.length → h 2 (D + 4) i = s (gx L i)) (hw : ∀ i : Nat, i < L.length → h 2 (D + 5) i = F (gx L i)) (hF : ∀ c, F c = 0 ∨ F c = 1) : ∃ h2, vcl mX0_setLevels [(1, D), (1, y)] h = some (.inl none, h2) ∧ (∀ k r i, ¬ (k = 2 ∧ (r = D + 2 ∨ r = y + 7)) → h2 k r i = h k r i) ∧ (∀ c ∈ L, h2 2 (y + 7) c = lvO s B c (F c) ∧ h2 2 (D + 2) c = B) ∧ ∀ c, ¬ c ∈ L → h2 2 (y + 7) c = h 2 (y + 7) c ∧ h2 2 (D + 2) c = h 2 (D + 2) c := by
  have loop : ∀ (f i : Nat) (h1 : vH) (v3 v4 : vv), i + f = L.length → (∀ k r i, ¬ (k = 2 ∧ (r = D + 2 ∨ r = y + 7)) → h1 k r i = h k r i) → (∀ j : Nat, j < i → h1 2 (y + 7) (gx L j) = lvO s B (gx L j) (F (gx L j)) ∧ h1 2 (D + 2) (gx L j) = B) → (∀ c, ¬ c ∈ L → h1 2 (y + 7) c = h 2 (y + 7) c ∧ h1 2 (D + 2) c = h 2 (D + 2) c) → ∃ h2, vrun mX0_setLevels 2 [(1, D), (1, y), (0, i), v3, v4] [] h1 = some (.inl none, h2) ∧ (∀ k r i, ¬ (k = 2 ∧ (r = D + 2 ∨ r = y + 7)) → h2 k r i = h k r i) ∧ (∀ c ∈ L, h2 2 (y + 7) c = lvO s B c (F c) ∧ h2 2 (D + 2) c = B) ∧ ∀ c, ¬ c ∈ L → h2 2 (y + 7) c = h 2 (y + 7) c ∧ h2 2 (D + 2) c = h 2 (D + 2) c := by
    intro f
    induction f with
    | zero =>
      intro i h1 v3 v4 hi hf hd ho
      have X : sx h h1 := fun k r j e => hf k r j (fun z => by rw [z.1] at e; cases e)
      have e0 : h1 207 D 0 = (L.length : Int) := (hf _ _ _ (by omega)).trans hc
      refine ⟨h1, ?_, hf, fun c hcL => ?_, ho⟩
      · rw [rX0_setLevels_2 (shDirections_sx X sD) (by omega) (shLayout_sx X sL), if_pos (by omega)]
        all_goals (intro z; omega)
      · obtain ⟨j, j1, rfl⟩ := gx_mem.mp hcL
        exact hd j (by omega)
    | succ f ih =>
      intro i h1 v3 v4 hi hf hd ho
      have il : i < L.length := by omega
      have X : sx h h1 := fun k r j e => hf k r j (fun z => by rw [z.1] at e; cases e)
      have e0 : h1 207 D 0 = (L.length : Int) := (hf _ _ _ (by omega)).trans hc
      have e1 : h1 208 D 0 = B := (hf _ _ _ (by omega)).trans hB
      have e3 : h1 2 (D + 3) i = gx L i := (hf _ _ _ (by omega)).trans (hch i il)
      have e4 : h1 2 (D + 4) i = s (gx L i) := (hf _ _ _ (by omega)).trans (hs i il)
      have e5 : h1 2 (D + 5) i = F (gx L i) := (hf _ _ _ (by omega)).trans (hw i il)
      have g0 := h0 _ (gx_mem.mpr ⟨i, il, rfl⟩)
      have w := hF (gx L i)
      have lv : ((if B % 2 = F (gx L i) then B else B + 1) + (if (¬ (s (gx L i) < 48) ∧ ¬ (57 < s (gx L i))) ∧ F (gx L i) = 1 then 1 else 0) : Int) = lvO s B (gx L i) (F (gx L i)) := by
        unfold lvO
        congr 1
        · split <;> omega
        · by_cases z : (¬ (s (gx L i) < 48) ∧ ¬ (57 < s (gx L i))) ∧ F (gx L i) = 1
          · rw [if_pos z, if_pos ⟨z.2, z.1⟩]
          · rw [if_neg z, if_neg (fun q => z ⟨q.2, q.1⟩)]
      have li := lvO_in (s := s) (B := B) (c := gx L i) (w := F (gx L i)) hB0.1
      obtain ⟨h2, a1, a2⟩ := ih (i + 1) (vup (vup h1 2 (y + 7) (gx L i) (lvO s B (gx L i) (F (gx L i)))) 2 (D + 2) (gx L i) B) (0, gx L i) (0, (if (¬ (s (gx L i) < 48) ∧ ¬ (57 < s (gx L i))) ∧ F (gx L i) = 1 then 1 else 0)) (by omega) (fun k r j e => by
        unfold vup
        rw [if_neg (fun z => e ⟨z.1, Or.inl z.2.1⟩), if_neg (fun z => e ⟨z.1, Or.inr z.2.1⟩)]
        exact hf k r j e) (fun j hj => by
        rw [vup_r (by omega), vup_2, vup_2]
        by_cases z : j = i
        · rw [z, if_pos rfl, if_pos rfl]; exact ⟨rfl, rfl⟩
        · have lt := gx_lt hp (show j < i by omega) il
          rw [if_neg (by omega), if_neg (by omega), vup_r (by omega)]
          exact hd j (by omega)) (fun c hcL => by
        have ne : c ≠ gx L i := fun z => hcL (by rw [z]; exact gx_mem.mpr ⟨i, il, rfl⟩)
        rw [vup_r (by omega), vup_2, vup_2, if_neg ne, if_neg ne, vup_r (by omega)]
        exact ho c hcL)
      refine ⟨h2, ?_, a2⟩
      rw [rX0_setLevels_2 (shDirections_sx X sD) (by omega) (shLayout_sx X sL), if_neg (by omega), if_neg (by omega), e1, e3, e4, e5, if_neg (show ¬ gx L i < 0 by omega), if_neg (show ¬ 131 ≤ gx L i by omega), if_neg (show ¬ gx L i < 0 by omega), if_neg (show ¬ 131 ≤ gx L i by omega), lv]
      · exact a1
      all_goals (try rw [e1, e3, e4, e5, lv])
      all_goals (first | (intros; omega) | assumption)
  obtain ⟨h2, a1, a2⟩ := loop L.length 0 h (9, 0) (9, 0) (by omega) (fun _ _ _ _ => rfl) (fun j hj => absurd hj (Nat.not_lt_zero j)) (fun _ _ => ⟨rfl, rfl⟩)
  exact ⟨h2, rX0_setLevels_0.trans a1, a2⟩
theorem lB_step {k : Nat} (hk : k < n) (h : s k = 60) (m : ¬ lM s n k = -1) : lB s n k = lB s n (lI s n k) + 1 + (lB s n (lI s n k) + 1 + wy1 s n k) % 2 := by
  have e1 : lB s n k = lBs s n (k + 1) k := by
    unfold lB
    rw [if_neg (by omega), lBs_keep n hk]
  have e2 : lBs s n (k + 1) k = (if lI s n k = -1 then lB0 s n else lBs s n k (lI s n k)) + 1 + ((if lI s n k = -1 then lB0 s n else lBs s n k (lI s n k)) + 1 + wy1 s n k) % 2 := by
    show (if s k = 60 ∧ ¬ lM s n k = -1 then ipd (lBs s n k) k _ else lBs s n k) k = _
    rw [if_pos ⟨h, m⟩]
    unfold ipd
    rw [if_pos rfl]
  have e3 : (if lI s n k = -1 then lB0 s n else lBs s n k (lI s n k)) = lB s n (lI s n k) := by
    unfold lB
    by_cases c : lI s n k = -1
    · rw [if_pos c, if_pos c]
    · rw [if_neg c, if_neg c]
      have w := (lI_in (s := s) (n := n) (k := k) hk).resolve_left c
      have q : (((lI s n k).toNat : Nat) : Int) = lI s n k := by omega
      have a1 := lBs_keep (s := s) (n := n) (j := (lI s n k).toNat) k (by omega)
      have a2 := lBs_keep (s := s) (n := n) (j := (lI s n k).toNat) n (by omega)
      rw [q] at a1 a2
      rw [a1, a2]
  rw [e1, e2, e3]
theorem fW_in {s : Int → Int} : ∀ L : List Int, isW (fW s L)
  | [] => Or.inl rfl
  | c :: r => by
    unfold fW
    split
    · exact fW_in r
    · have := wy_in (s c)
      unfold isW
      omega
/-- what finding directions writes -/
def fF (y D : Int) (h h2 : vH) : Prop := ∀ (k : Nat) (r i : Int), ¬ ((k = 2 ∧ ((D + 1 ≤ r ∧ r ≤ D + 7) ∨ r = y + 7)) ∨ (r = D ∧ 207 ≤ k ∧ k ≤ 209) ∨ (r = y ∧ k = 511)) → h2 k r i = h k r i
theorem fF_tr {y D : Int} {a b c : vH} (x : fF y D a b) (z : fF y D b c) : fF y D a c := fun k r i e => (z k r i e).trans (x k r i e)
theorem fF_y {y D lo hi : Int} {k1 k2 : Nat} {h h2 : vH} (x : yF D lo hi k1 k2 h h2) (a : 1 ≤ lo) (b : hi ≤ 7) (c : k2 < k1 ∨ (207 ≤ k1 ∧ k2 ≤ 209)) : fF y D h h2 := fun k r i e => x k r i (fun z => e (z.elim (fun w => Or.inl ⟨w.1, Or.inl ⟨by omega, by omega⟩⟩) (fun w => Or.inr (Or.inl ⟨w.1, by omega, by omega⟩))))
theorem fF_sx {y D : Int} {h h2 : vH} (x : fF y D h h2) : sx h h2 := by
  intro k r i hk
  refine x k r i (fun z => ?_)
  rcases z with z | z | z
  · rw [z.1] at hk; cases hk
  · rcases (show k = 207 ∨ k = 208 ∨ k = 209 by omega) with e | e | e <;> (subst e; cases hk)
  · rw [z.2] at hk; cases hk
/-- a sequence: its ways, its levels -/
theorem C_seq {o : Int} (sD : shDirections h D) (sL : shLayout h y) (hyD : y + 9 < D) (h131 : n ≤ 131) (hs : ∀ k : Int, 0 ≤ k → k < n → h 2 (y + 1) k = s k) (hm : ∀ j : Nat, j < n → h 2 (D + 1) j = if s j = 60 then lM s n j else -1) (ho : isSq s n o) (hb : ¬ o = -1 → h 2 (D + 2) o = lB s n (lI s n o)) (hBo : 0 ≤ lB s n o ∧ lB s n o ≤ 400) {v3 : Int} :
    ∃ h2, vret vrun mX0_find 46 [(1, D), (1, y), (0, o), (0, v3)] [] (vcl mX0_chainUp [(1, D), (1, y), (0, o + 1), (0, lEnd s n o)] h) = vrun mX0_find 21 [(1, D), (1, y), (0, o + 1), (0, v3)] [] h2 ∧ fF y D h h2 ∧ (∀ j : Nat, j < n → h2 2 (D + 1) j = if s j = 60 then lM s n j else -1) ∧ (h2 511 y 0 = if o = -1 then lB0 s n else h 511 y 0) ∧ (∀ j : Nat, j < n → lI s n j = o → h2 2 (y + 7) j = lL s n j ∧ h2 2 (D + 2) j = lB s n o) ∧ (∀ j : Nat, j < n → ¬ lI s n j = o → h2 2 (y + 7) j = h 2 (y + 7) j ∧ h2 2 (D + 2) j = h 2 (D + 2) j) ∧ h2 209 D 0 = h 209 D 0 := by
  have en := lEnd_in ho
  have o1 : -1 ≤ o := by rcases ho with z | z <;> omega
  obtain ⟨h1, a1, a2, a3, a4⟩ := C_chainUp sD sL hyD h131 hs hm ho
  have pw : (Ch (lI s n) o n 0).Pairwise (· < ·) := Ch_pw n 0
  have len : (Ch (lI s n) o n 0).length ≤ n := Ch_len n 0
  have mem : ∀ c : Int, c ∈ Ch (lI s n) o n 0 ↔ 0 ≤ c ∧ c < n ∧ lI s n c = o := fun c => by rw [Ch_mem]; omega
  generalize hL : Ch (lI s n) o n 0 = L at a3 a4 pw len mem
  have x1 : sx h h1 := yF_sx a2 (fun k u v => by rw [show k = 207 by omega]; rfl)
  have sD1 := shDirections_sx x1 sD
  have sL1 := shLayout_sx x1 sL
  have ar : ∀ i : Nat, i < L.length → h1 2 (D + 3) i = gx L i ∧ h1 2 (D + 4) i = s (gx L i) ∧ h1 2 (D + 5) i = wy (s (gx L i)) ∧ h1 2 (D + 6) i = -1 := fun i hi => a4 i _ (gx_get hi)
  have fw := C_firstWay sD1 a3 (by omega) (fun i hi => (ar i hi).2.2.1)
  have fwi := fW_in (s := s) L
  -- the base
  have lbs : ∀ h1 : vH, (¬ o = -1 → h1 2 (D + 2) o = lB s n (lI s n o)) → (if fX0_leastBase h1 D o % 2 = max (fW s L) 0 then fX0_leastBase h1 D o else fX0_leastBase h1 D o + 1) = lB s n o ∧ 0 ≤ fX0_leastBase h1 D o ∧ fX0_leastBase h1 D o ≤ 400 := by
    intro h1 hb
    have w1 : wy1 s n o = max (fW s L) 0 := by
      unfold wy1
      rw [hL]
      unfold isW at fwi
      split <;> omega
    have w2 := wy1_in (s := s) (n := n) (o := o)
    rcases ho with z | z
    · have e : fX0_leastBase h1 D o = 0 := by unfold fX0_leastBase; rw [if_pos (by omega)]
      rw [e, z]
      have : lB s n (-1) = wy1 s n (-1) := if_pos rfl
      rw [z] at w1 w2
      rw [this]
      refine ⟨?_, by omega, by omega⟩
      split <;> omega
    · obtain ⟨k, rfl⟩ : ∃ k : Nat, o = k := ⟨o.toNat, by omega⟩
      have st := lB_step (s := s) (n := n) (k := k) (by omega) z.2.2.1 z.2.2.2
      have kb := lB_in (s := s) (n := n) (k := k) (by omega)
      have e : fX0_leastBase h1 D k = lB s n (lI s n k) + 1 := by unfold fX0_leastBase; rw [if_neg (by omega), if_neg (by omega), hb (by omega)]
      rw [e]
      refine ⟨?_, by omega, by omega⟩
      rw [st, ← w1]
      split <;> omega
  obtain ⟨l1, l2, l3⟩ := lbs h1 (fun z => (a2 _ _ _ (by omega)).trans (hb z))
  let h2 : vH := vup (vup h1 208 D 0 (lB s n o)) 511 y 0 (if o = -1 then lB s n o else h1 511 y 0)
  have r2 : ∀ r i, h2 2 r i = h1 2 r i := fun r i => (vup_k (by decide)).trans (vup_k (by decide))
  have x2 : sx h1 h2 := sx_up rfl (sx_up rfl sx_rf)
  have sD2 := shDirections_sx x2 sD1
  have sL2 := shLayout_sx x2 sL1
  have c2 : h2 207 D 0 = L.length := (vup_k (by decide)).trans ((vup_k (by decide)).trans a3)
  have b2 : h2 208 D 0 = lB s n o := (vup_k (by decide)).trans vup_s
  obtain ⟨h3, d1, d2, d3⟩ := C_turnDigits (s := s) (L := L) sD2 pw c2 (by omega) b2 hBo.1 (fun i hi => (r2 _ _).trans (ar i hi).2.1) (fun i hi => (r2 _ _).trans (ar i hi).2.2.1)
  have x3 := yF_0 d2
  have sD3 := shDirections_sx x3 sD2
  obtain ⟨h4, e1, e2, e3, e4⟩ := C_pairBrackets (s := s) (L := L) sD3 pw (fun c hc => ((mem c).mp hc).1) ((d2 _ _ _ (by omega)).trans c2) (by omega) (fun i hi => (d2 _ _ _ (by omega)).trans ((r2 _ _).trans (ar i hi).2.1)) (fun i hi => (d2 _ _ _ (by omega)).trans ((r2 _ _).trans (ar i hi).2.2.2))
  have x4 := yF_0 e2
  have sD4 := shDirections_sx x4 sD3
  obtain ⟨h5, f1, f2, f3, f4⟩ := C_turnPairs (s := s) (I := lI s n) (o := o) (n := n) (L := L) (G := stW s (lB s n o % 2) L) sD4 pw ((e2 _ _ _ (by omega)).trans ((d2 _ _ _ (by omega)).trans c2)) (by omega) (fun x u v => by rw [mem]; omega) (fun c hc => by have := (mem c).mp hc; omega) ((e2 _ _ _ (by omega)).trans ((d2 _ _ _ (by omega)).trans b2)) hBo.1 (fun i hi => (e2 _ _ _ (by omega)).trans (d3 i hi)) (fun c _ => stW_in (b := 0) (Or.inl rfl) L _ (by omega) c) e3 e4
  have x5 := yF_0 f2
  have sD5 := shDirections_sx x5 sD4
  obtain ⟨h6, g1, g2, g3⟩ := C_turnNeutral (L := L) sD5 pw ((f2 _ _ _ (by omega)).trans ((e2 _ _ _ (by omega)).trans ((d2 _ _ _ (by omega)).trans c2))) (by omega) ((f2 _ _ _ (by omega)).trans ((e2 _ _ _ (by omega)).trans ((d2 _ _ _ (by omega)).trans b2))) hBo.1 f3
  have x6 := yF_0 g2
  have sD6 := shDirections_sx x6 sD5
  have sL6 := shLayout_sx (sx_tr x3 (sx_tr x4 (sx_tr x5 x6))) sL2
  have to2 : ∀ r i, ¬ (D + 5 ≤ r ∧ r ≤ D + 7) → h6 2 r i = h1 2 r i := fun r i z => by
    rw [g2 _ _ _ (by omega), f2 _ _ _ (by omega), e2 _ _ _ (by omega), d2 _ _ _ (by omega), r2]
  have tok : ∀ k r i, ¬ k = 2 → h6 k r i = h2 k r i := fun k r i z => by
    rw [g2 _ _ _ (by omega), f2 _ _ _ (by omega), e2 _ _ _ (by omega), d2 _ _ _ (by omega)]
  obtain ⟨h7, q1, q2, q3, q4⟩ := C_setLevels (y := y) (s := s) (L := L) (F := nuF (bkW s (lI s n) (prB s L [] (fun _ => -1)) o (lB s n o % 2) L L (stW s (lB s n o % 2) L)) (lB s n o % 2) (lB s n o % 2) L) (B := lB s n o) sD6 sL6 hyD pw (fun c hc => by have := (mem c).mp hc; omega) ((tok _ _ _ (by decide)).trans c2) (by omega) ((tok _ _ _ (by decide)).trans b2) hBo (fun i hi => (to2 _ _ (by omega)).trans (ar i hi).1) (fun i hi => (to2 _ _ (by omega)).trans (ar i hi).2.1) g3 (fun c => nuF_in (by omega) L _ c (by omega) f4)
  refine ⟨h7, ?_, ?_, fun j hj => ?_, ?_, fun j hj hjo => ?_, fun j hj hjo => ?_, ?_⟩
  · refine (vret_n a1).trans ?_
    refine (rX0_find_49 sD1 (fun z w => ?_) (fun z w => ?_)).trans ?_
    · have : fX0_leastBase h1 D o = h1 2 (D + 2) o + 1 := by unfold fX0_leastBase; rw [if_neg z, if_neg w]
      omega
    · have : fX0_leastBase h1 D o = h1 2 (D + 2) o + 1 := by unfold fX0_leastBase; rw [if_neg z, if_neg w]
      omega
    refine (vret_v fw).trans ?_
    refine (rX0_find_60 sD1 l2 (by omega) sD1 sD1 sL1).trans ?_
    rw [l1, vup_s]
    refine (vret_n d1).trans ?_
    refine (rX0_find_94 sD3).trans ((vret_n e1).trans ?_)
    refine (rX0_find_98 sD4).trans ((vret_n f1).trans ?_)
    refine (rX0_find_102 sD5).trans ((vret_n g1).trans ?_)
    refine (rX0_find_106 sD6).trans ((vret_n q1).trans ?_)
    exact rX0_find_111 (by omega) (by omega)
  · have f12 : fF y D h h1 := fF_y a2 (by omega) (by omega) (Or.inr ⟨by omega, by omega⟩)
    have f22 : fF y D h1 h2 := fun k r i e => by
      show vup (vup h1 208 D 0 _) 511 y 0 _ k r i = _
      unfold vup
      rw [if_neg (fun z => e (Or.inr (Or.inr ⟨z.2.1, z.1⟩))), if_neg (fun z => e (Or.inr (Or.inl ⟨z.2.1, by omega, by omega⟩)))]
    have f67 : fF y D h6 h7 := fun k r i e => q2 k r i (fun z => e (Or.inl ⟨z.1, z.2.elim (fun w => Or.inl ⟨by omega, by omega⟩) Or.inr⟩))
    exact fF_tr f12 (fF_tr f22 (fF_tr (fF_y d2 (by omega) (by omega) (Or.inl (by omega))) (fF_tr (fF_y e2 (by omega) (by omega) (Or.inl (by omega))) (fF_tr (fF_y f2 (by omega) (by omega) (Or.inl (by omega))) (fF_tr (fF_y g2 (by omega) (by omega) (Or.inl (by omega))) f67)))))
  · rw [q2 _ _ _ (by omega), to2 _ _ (by omega), a2 _ _ _ (by omega)]
    exact hm j hj
  · rw [q2 _ _ _ (by omega), tok _ _ _ (by decide)]
    refine vup_s.trans ?_
    by_cases z : o = -1
    · rw [if_pos z, if_pos z, z]; rfl
    · rw [if_neg z, if_neg z]
      exact a2 _ _ _ (by omega)
  · have jm : (j : Int) ∈ L := (mem j).mpr ⟨by omega, by omega, hjo⟩
    obtain ⟨z1, z2⟩ := q3 j jm
    refine ⟨?_, z2⟩
    rw [z1]
    unfold lL sqL sqG
    rw [hjo, hL, nuF_L L _ j jm]
  · have jm : ¬ (j : Int) ∈ L := fun z => hjo ((mem j).mp z).2.2
    obtain ⟨z1, z2⟩ := q4 j jm
    rw [z1, z2, to2 _ _ (by omega), to2 _ _ (by omega), a2 _ _ _ (by omega), a2 _ _ _ (by omega)]
    exact ⟨rfl, rfl⟩
  · rw [q2 _ _ _ (by omega), tok _ _ _ (by decide)]
    exact (vup_k (by decide)).trans ((vup_k (by decide)).trans (a2 _ _ _ (by omega)))
/-- THE CLASS FINDS THE DIRECTIONS OF A LINE -/
theorem C_find (sD : shDirections h D) (sL : shLayout h y) (hyD : y + 9 < D) (hn : h 509 y 0 = (n : Int)) (h131 : n ≤ 131) (hs : ∀ k : Int, 0 ≤ k → k < n → h 2 (y + 1) k = s k) : ∃ h2, vcl mX0_find [(1, D), (1, y)] h = some (.inl none, h2) ∧ fF y D h h2 ∧ (∀ j : Nat, j < n → h2 2 (y + 7) j = lL s n j) ∧ h2 511 y 0 = lB0 s n := by
  have f0 : fF y D h (vup h 209 D 0 n) := fun k r i e => by
    unfold vup
    rw [if_neg (fun z => e (Or.inr (Or.inl ⟨z.2.1, by omega, by omega⟩)))]
  have sD0 := shDirections_sx (fF_sx f0) sD
  have sL0 := shLayout_sx (fF_sx f0) sL
  obtain ⟨h1, a1, a2, a3⟩ := C_match (s := s) (n := n) sD0 sL0 hyD vup_s h131 (fun k u v => (vup_k (by decide)).trans (hs k u v))
  have f1 := fF_tr f0 (fF_y (y := y) a2 (by omega) (by omega) (Or.inl (by omega)))
  have n1 : h1 209 D 0 = n := (a2 _ _ _ (by omega)).trans vup_s
  have s1 : ∀ {h1 : vH}, fF y D h h1 → ∀ k : Int, 0 ≤ k → k < n → h1 2 (y + 1) k = s k := fun f k u v => (f _ _ _ (by omega)).trans (hs k u v)
  have lb0 : 0 ≤ lB s n (-1) ∧ lB s n (-1) ≤ 400 := by
    have e : lB s n (-1) = wy1 s n (-1) := if_pos rfl
    have := wy1_in (s := s) (n := n) (o := -1)
    omega
  obtain ⟨h2, b1, b2, b3, b4, b5, b6, b7⟩ := C_seq (o := -1) (v3 := (n : Int)) (shDirections_sx (fF_sx f1) sD) (shLayout_sx (fF_sx f1) sL) hyD h131 (s1 f1) a3 (Or.inl rfl) (fun z => absurd rfl z) lb0
  have loop : ∀ (f k : Nat) (h1 : vH) (v3 : vv), k + f = n → fF y D h h1 → h1 209 D 0 = n → (∀ j : Nat, j < n → h1 2 (D + 1) j = if s j = 60 then lM s n j else -1) → h1 511 y 0 = lB0 s n → (∀ j : Nat, j < n → lI s n j < k → h1 2 (y + 7) j = lL s n j ∧ h1 2 (D + 2) j = lB s n (lI s n j)) → ∃ h2, vrun mX0_find 21 [(1, D), (1, y), (0, k), v3] [] h1 = some (.inl none, h2) ∧ fF y D h h2 ∧ (∀ j : Nat, j < n → h2 2 (y + 7) j = lL s n j) ∧ h2 511 y 0 = lB0 s n := by
    intro f
    induction f with
    | zero =>
      intro k h1 v3 hk hF hsz hp hb hl
      refine ⟨h1, ?_, hF, fun j hj => (hl j hj ?_).1, hb⟩
      · rw [rX0_find_21 (shDirections_sx (fF_sx hF) sD) (by omega) (by omega) (by omega) (by omega), if_pos (by omega)]
      · rcases lI_in (s := s) (n := n) (k := j) hj with w | w <;> omega
    | succ f ih =>
      intro k h1 v3 hk hF hsz hp hb hl
      have sD1 := shDirections_sx (fF_sx hF) sD
      have sL1 := shLayout_sx (fF_sx hF) sL
      have ek : fX0_endOfInside h1 D k = if s k = 60 ∧ ¬ lM s n k = -1 then lM s n k else -1 := by
        unfold fX0_endOfInside
        rw [if_neg (by omega), if_neg (by omega), if_neg (by omega), hp k (by omega)]
        by_cases c : s k = 60
        · rw [if_pos c]
          rcases lM_sym (s := s) (n := n) k with w | w
          · rw [w, if_pos (by omega), if_neg (fun z => z.2 rfl)]
          · have w2 : (k : Int) < lM s n k := by rcases w.2 with z | z <;> omega
            rw [if_neg (by omega), if_pos ⟨c, by omega⟩]
        · rw [if_neg c, if_pos (by omega), if_neg (fun z => c z.1)]
      rw [rX0_find_21 sD1 (by omega) (by omega) (by omega) (by omega), if_neg (by omega), ek]
      by_cases c : s k = 60 ∧ ¬ lM s n k = -1
      · have sq : isSq s n k := Or.inr ⟨by omega, by omega, c.1, c.2⟩
        have le : lEnd s n k = lM s n k := if_neg (by omega)
        have kb : 0 ≤ lB s n k ∧ lB s n k ≤ 400 := by
          have e : lB s n k = lBs s n n k := if_neg (by omega)
          have := lBs_in (s := s) (n := n) n (Nat.le_refl _) k (by omega) c.1 c.2
          omega
        have lk : lI s n k < k := by rcases lI_in (s := s) (n := n) (k := k) (by omega) with w | w <;> omega
        obtain ⟨h3, d1, d2, d3, d4, d5, d6, d7⟩ := C_seq (o := k) (v3 := lM s n k) sD1 sL1 hyD h131 (s1 hF) hp sq (fun _ => (hl k (by omega) lk).2) kb
        obtain ⟨h4, q1, q2⟩ := ih (k + 1) h3 (0, lM s n k) (by omega) (fF_tr hF d2) (d7.trans hsz) d3 (by rw [d4, if_neg (by omega)]; exact hb) (fun j hj hlt => by
          by_cases z : lI s n j = k
          · rw [z]; exact d5 j hj z
          · obtain ⟨w1, w2⟩ := d6 j hj z
            rw [w1, w2]
            exact hl j hj (by omega))
        refine ⟨h4, ?_, q2⟩
        rw [if_pos c, if_neg c.2, ← le] at *
        exact d1.trans q1
      · obtain ⟨h4, q1, q2⟩ := ih (k + 1) h1 (0, -1) (by omega) hF hsz hp hb (fun j hj hlt => by
          refine hl j hj ?_
          by_cases z : lI s n j = k
          · exfalso
            rcases lI_in (s := s) (n := n) (k := j) hj with w | w
            · omega
            · rw [z] at w; exact c ⟨w.2.2.1, w.2.2.2⟩
          · omega)
        refine ⟨h4, ?_, q2⟩
        rw [if_neg c, if_pos rfl]
        exact q1
  have b4 : h2 511 y 0 = lB0 s n := b4.trans (if_pos rfl)
  obtain ⟨h3, c1, c2⟩ := loop n 0 h2 (0, n) (by omega) (fF_tr f1 b2) (b7.trans n1) b3 b4 (fun j hj hlt => by
    have e : lI s n j = -1 := by rcases lI_in (s := s) (n := n) (k := j) hj with w | w <;> omega
    rw [e]
    exact b5 j hj e)
  refine ⟨h3, ?_, c2⟩
  refine (rX0_find_0 sL sD).trans ?_
  rw [hn, show min (n : Int) 131 = n by omega]
  refine (vret_n a1).trans ?_
  refine rX0_find_19.trans ?_
  have e0 : fX0_endOfInside h1 D (-1) = n := by
    unfold fX0_endOfInside
    rw [if_pos rfl, n1]
  have le : lEnd s n (-1) = n := if_pos rfl
  rw [rX0_find_21 (shDirections_sx (fF_sx f1) sD) (by omega) (by omega) (by omega) (by omega), if_neg (by omega), e0, if_neg (by omega)]
  rw [le] at b1
  exact b1.trans c1
end CFI

