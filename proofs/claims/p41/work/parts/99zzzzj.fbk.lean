/-! moves ahead and behind, there and back -/
section FBK
variable {a b : vH} {p l x y z : Int} {L : List Clu}
theorem saF_s : ∀ (f : Nat) (k r : Int), r ≤ saF L x f k r ∧ (saF L x f k r = r ∨ ∃ i, k ≤ i ∧ i < k + f ∧ bg L i < x ∧ saF L x f k r = bg L i) ∧ ∀ i, k ≤ i → i < k + f → bg L i < x → bg L i ≤ saF L x f k r
  | 0, k, r => ⟨Int.le_refl _, Or.inl rfl, fun i u v => absurd v (by omega)⟩
  | f + 1, k, r => by
    have e : saF L x (f + 1) k r = saF L x f (k + 1) (if x ≤ bg L k then r else max r (bg L k)) := rfl
    obtain ⟨s1, s2, s3⟩ := saF_s f (k + 1) (if x ≤ bg L k then r else max r (bg L k))
    rw [e]
    by_cases c : x ≤ bg L k
    · rw [if_pos c] at s1 s2 s3 ⊢
      refine ⟨s1, s2.imp (fun z => z) (fun ⟨i, u, v, w⟩ => ⟨i, by omega, by omega, w⟩), fun i u v w => ?_⟩
      by_cases q : i = k
      · subst q; omega
      · exact s3 i (by omega) (by omega) w
    · rw [if_neg c] at s1 s2 s3 ⊢
      refine ⟨by omega, ?_, fun i u v w => ?_⟩
      · rcases s2 with q | ⟨i, u, v, w⟩
        · rw [q]
          by_cases d : bg L k ≤ r
          · exact Or.inl (by omega)
          · exact Or.inr ⟨k, Int.le_refl _, by omega, by omega, by omega⟩
        · exact Or.inr ⟨i, by omega, by omega, w⟩
      · by_cases q : i = k
        · subst q; omega
        · exact s3 i (by omega) (by omega) w
theorem sbF_s : ∀ (f : Nat) (k : Int), (sbF L x z f k = z ∧ ∀ i, k ≤ i → i < k + f → bg L i ≤ x) ∨ ∃ i, k ≤ i ∧ i < k + f ∧ x < bg L i ∧ sbF L x z f k = bg L i ∧ ∀ j, k ≤ j → j < i → bg L j ≤ x
  | 0, k => Or.inl ⟨rfl, fun i u v => absurd v (by omega)⟩
  | f + 1, k => by
    have e : sbF L x z (f + 1) k = if bg L k ≤ x then sbF L x z f (k + 1) else bg L k := rfl
    rw [e]
    by_cases c : bg L k ≤ x
    · rw [if_pos c]
      rcases sbF_s f (k + 1) with ⟨s1, s2⟩ | ⟨i, u, v, w, s1, s2⟩
      · refine Or.inl ⟨s1, fun i u v => ?_⟩
        by_cases q : i = k
        · subst q; exact c
        · exact s2 i (by omega) (by omega)
      · refine Or.inr ⟨i, by omega, by omega, w, s1, fun j u2 v2 => ?_⟩
        by_cases q : j = k
        · subst q; exact c
        · exact s2 j (by omega) v2
    · rw [if_neg c]
      exact Or.inr ⟨k, Int.le_refl _, by omega, by omega, rfl, fun j u v => absurd v (by omega)⟩
theorem mCL_o (g : iG a) (hp : 0 ≤ p ∧ p < 4) (hl : 0 ≤ l ∧ l < 60) {i j : Int} (h0 : 0 ≤ i) (hij : i < j) (hj : j < (mCL a p l).length) : bg (mCL a p l) i = -1 ∨ bg (mCL a p l) j = -1 ∨ bg (mCL a p l) i < bg (mCL a p l) j := by
  have q := (mCL_C g hp hl).2
  have hi : i.toNat < (mCL a p l).length := by omega
  have hj' : j.toNat < (mCL a p l).length := by omega
  have r := List.pairwise_iff_getElem.mp q i.toNat j.toNat hi hj' (by omega)
  unfold bg
  rw [List.getD_eq_getElem?_getD, List.getD_eq_getElem?_getD, List.getElem?_eq_getElem hi, List.getElem?_eq_getElem hj']
  exact r
/-- a place where a cluster begins -/
def isBg (a : vH) (p l y : Int) : Prop := ∃ i : Int, 0 ≤ i ∧ i < (mCL a p l).length ∧ bg (mCL a p l) i = y
/-- behind a place: the least that begins there, or the line's end -/
theorem sbO_s (g : iG a) (hp : 0 ≤ p ∧ p < 4) (hl : 0 ≤ l ∧ l < 60) (hx : -1 ≤ x) : (a 2 284 l ≤ x → sbO a p l x = -1) ∧ (x < a 2 284 l → x < sbO a p l x ∧ sbO a p l x ≤ a 2 284 l ∧ (isBg a p l (sbO a p l x) ∨ sbO a p l x = a 2 284 l) ∧ ∀ y, isBg a p l y → x < y → sbO a p l x ≤ y) := by
  have B := fun (k : Int) (h0 : 0 ≤ k) (hk : k < (mCL a p l).length) => mCL_c g hp hl h0 hk
  have O := fun (i j : Int) (h0 : 0 ≤ i) (hij : i < j) (hj : j < (mCL a p l).length) => mCL_o g hp hl h0 hij hj
  unfold sbO
  have s := sbF_s (L := mCL a p l) (x := x) (z := if a 2 284 l ≤ x then -1 else a 2 284 l) (mCL a p l).length 0
  refine ⟨fun c => ?_, fun c => ?_⟩
  · rcases s with ⟨s1, s2⟩ | ⟨i, u, v, w, s1, s2⟩
    · rw [s1, if_pos c]
    · have := (B i u (by omega)).1
      omega
  · rcases s with ⟨s1, s2⟩ | ⟨i, u, v, w, s1, s2⟩
    · rw [s1, if_neg (by omega)]
      refine ⟨c, Int.le_refl _, Or.inr rfl, fun y ⟨i, u, v, e⟩ w => ?_⟩
      have := s2 i u (by omega)
      omega
    · rw [s1]
      have bi := (B i u (by omega)).1
      refine ⟨w, by omega, Or.inl ⟨i, u, by omega, rfl⟩, fun y ⟨j, u2, v2, e⟩ w2 => ?_⟩
      subst e
      by_cases q : j < i
      · have := s2 j u2 q; omega
      · by_cases q2 : j = i
        · subst q2; exact Int.le_refl _
        · have o := O i j u (by omega) v2
          omega
/-- ahead of a place: the greatest that begins there -/
theorem sa_s (g : iG a) (hp : 0 ≤ p ∧ p < 4) (hl : 0 ≤ l ∧ l < 60) : let v := saF (mCL a p l) x (mCL a p l).length 0 (-1); (v = -1 ∧ ∀ y, isBg a p l y → y < x → y = -1) ∨ (0 ≤ v ∧ v < x ∧ isBg a p l v ∧ ∀ y, isBg a p l y → y < x → y ≤ v) := by
  have B := fun (k : Int) (h0 : 0 ≤ k) (hk : k < (mCL a p l).length) => mCL_c g hp hl h0 hk
  obtain ⟨s1, s2, s3⟩ := saF_s (L := mCL a p l) (x := x) (mCL a p l).length 0 (-1)
  intro v
  have ev : v = saF (mCL a p l) x (mCL a p l).length 0 (-1) := rfl
  rw [← ev] at s1 s2 s3
  by_cases c : v = -1
  · refine Or.inl ⟨c, fun y ⟨i, u, w, e⟩ q => ?_⟩
    have := s3 i u (by omega) (by omega)
    have := (B i u w).1
    omega
  · rcases s2 with q | ⟨i, u, w, q, e⟩
    · exact absurd q c
    · refine Or.inr ⟨by omega, by omega, ⟨i, u, by omega, e.symm⟩, fun y ⟨j, u2, w2, e2⟩ q2 => ?_⟩
      have := s3 j u2 (by omega) (by omega)
      omega
theorem bsD_s : ∀ l : Nat, (bsD a p l = -1 ∧ ∀ i, 0 ≤ i → i < (l : Int) → mInv a p i) ∨ ((0 ≤ bsD a p l ∧ bsD a p l < l) ∧ ¬ mInv a p (bsD a p l) ∧ ∀ i, bsD a p l < i → i < (l : Int) → mInv a p i)
  | 0 => Or.inl ⟨rfl, fun i u v => absurd v (by omega)⟩
  | l + 1 => by
    have e : bsD a p (l + 1) = @ite _ (mInv a p (l : Int)) (Classical.propDecidable _) (bsD a p l) (l : Int) := rfl
    rw [e]
    by_cases c : mInv a p (l : Int)
    · rw [if_pos c]
      rcases bsD_s l with ⟨s1, s2⟩ | ⟨s1, s2, s3⟩
      · refine Or.inl ⟨s1, fun i u v => ?_⟩
        by_cases q : i = (l : Int)
        · rw [q]; exact c
        · exact s2 i u (by omega)
      · refine Or.inr ⟨by omega, s2, fun i u v => ?_⟩
        by_cases q : i = (l : Int)
        · rw [q]; exact c
        · exact s3 i u (by omega)
    · rw [if_neg c]
      exact Or.inr ⟨by omega, c, fun i u v => absurd v (by omega)⟩
theorem bsU_s : ∀ (f : Nat) (l : Int), (bsU a p f l = -1 ∧ ∀ i, l ≤ i → i < l + f → mInv a p i) ∨ ((l ≤ bsU a p f l ∧ bsU a p f l < l + f) ∧ ¬ mInv a p (bsU a p f l) ∧ ∀ i, l ≤ i → i < bsU a p f l → mInv a p i)
  | 0, l => Or.inl ⟨rfl, fun i u v => absurd v (by omega)⟩
  | f + 1, l => by
    have e : bsU a p (f + 1) l = @ite _ (mInv a p l) (Classical.propDecidable _) (bsU a p f (l + 1)) l := rfl
    rw [e]
    by_cases c : mInv a p l
    · rw [if_pos c]
      rcases bsU_s f (l + 1) with ⟨s1, s2⟩ | ⟨s1, s2, s3⟩
      · refine Or.inl ⟨s1, fun i u v => ?_⟩
        by_cases q : i = l
        · rw [q]; exact c
        · exact s2 i (by omega) (by omega)
      · refine Or.inr ⟨by omega, s2, fun i u v => ?_⟩
        by_cases q : i = l
        · rw [q]; exact c
        · exact s3 i (by omega) v
    · rw [if_neg c]
      exact Or.inr ⟨by omega, c, fun i u v => absurd v (by omega)⟩
/-- where a move ahead, a move behind goes from a place -/
noncomputable def AhF (a : vH) (p l x : Int) : Int × Int := if saF (mCL a p l) x (mCL a p l).length 0 (-1) = -1 then (if bsD a p l.toNat = -1 then (l, x) else (bsD a p l.toNat, a 2 284 (bsD a p l.toNat))) else (l, saF (mCL a p l) x (mCL a p l).length 0 (-1))
noncomputable def BeF (a : vH) (p l x : Int) : Int × Int := if sbO a p l x = -1 then (if bsO a p l = -1 then (l, x) else (bsO a p l, sbO a p (bsO a p l) (-1))) else (l, sbO a p l x)
theorem gAh_F : gAh a p = AhF a p (cuL a p) (cuX a p) := rfl
theorem gBe_F : gBe a p = BeF a p (cuL a p) (cuX a p) := rfl
theorem bsD_qe (y : pR a b) : ∀ l : Nat, bsD b p l = bsD a p l
  | 0 => rfl
  | l + 1 => by
    have ih := bsD_qe y l
    have e : ∀ a : vH, bsD a p (l + 1) = @ite _ (mInv a p (l : Int)) (Classical.propDecidable _) (bsD a p l) (l : Int) := fun _ => rfl
    rw [e, e, mInv_eq y, ih]
theorem bsU_qe (y : pR a b) : ∀ (f : Nat) (l : Int), bsU b p f l = bsU a p f l
  | 0, _ => rfl
  | f + 1, l => by
    have ih := bsU_qe y f (l + 1)
    have e : ∀ a : vH, bsU a p (f + 1) l = @ite _ (mInv a p l) (Classical.propDecidable _) (bsU a p f (l + 1)) l := fun _ => rfl
    rw [e, e, mInv_eq y, ih]
theorem sbO_qe (y : pR a b) : sbO b p l x = sbO a p l x := by unfold sbO; rw [mCL_eq y, y 284 l (by decide) (by decide)]
theorem bsO_qe (y : eqA a b) : bsO b p l = bsO a p l := by unfold bsO; rw [bsU_qe y.1, y.2.1]
theorem AhF_qe (y : eqA a b) : AhF b p l x = AhF a p l x := by
  unfold AhF
  rw [mCL_eq y.1, bsD_qe y.1, y.1 284 _ (by decide) (by decide)]
theorem BeF_qe (y : eqA a b) : BeF b p l x = BeF a p l x := by
  unfold BeF
  rw [sbO_qe y.1, bsO_qe y, sbO_qe y.1]
/-- a visible place -/
def isQ (a : vH) (p : Int) (q : Int × Int) : Prop := (0 ≤ q.1 ∧ q.1 < a 1504 282 0) ∧ (0 ≤ q.2 ∧ q.2 ≤ a 2 284 q.1) ∧ ¬ mInv a p q.1
theorem bsO_s (g : iG a) (hl : 0 ≤ l ∧ l < a 1504 282 0) : (bsO a p l = -1 ∧ ∀ i, l < i → i < a 1504 282 0 → mInv a p i) ∨ ((l < bsO a p l ∧ bsO a p l < a 1504 282 0) ∧ ¬ mInv a p (bsO a p l) ∧ ∀ i, l < i → i < bsO a p l → mInv a p i) := by
  have gl := g.1.2.1
  unfold bsO
  rcases bsU_s (a := a) (p := p) (a 1504 282 0 - (l + 1)).toNat (l + 1) with ⟨s1, s2⟩ | ⟨s1, s2, s3⟩
  · exact Or.inl ⟨s1, fun i u v => s2 i (by omega) (by omega)⟩
  · exact Or.inr ⟨by omega, s2, fun i u v => s3 i (by omega) v⟩
theorem BeF_s (g : iG a) (hp : 0 ≤ p ∧ p < 4) (q : isQ a p (l, x)) : BeF a p l x = (l, x) ∨ (l < (BeF a p l x).1 ∨ (BeF a p l x).1 = l ∧ x < (BeF a p l x).2) := by
  obtain ⟨q1, q2, q3⟩ := q
  have q1 : 0 ≤ l ∧ l < a 1504 282 0 := q1
  have q2 : 0 ≤ x ∧ x ≤ a 2 284 l := q2
  have gl := g.1.2.1
  have s := sbO_s g hp (l := l) (x := x) ⟨q1.1, by omega⟩ (by omega)
  unfold BeF
  by_cases c : sbO a p l x = -1
  · rw [if_pos c]
    rcases bsO_s (p := p) g q1 with ⟨d, -⟩ | ⟨d1, d2, d3⟩
    · rw [if_pos d]; exact Or.inl rfl
    · rw [if_neg (by omega)]; exact Or.inr (Or.inl d1.1)
  · rw [if_neg c]
    have lt : x < a 2 284 l := by
      by_cases w : a 2 284 l ≤ x
      · exact absurd (s.1 w) c
      · omega
    exact Or.inr (Or.inr ⟨rfl, (s.2 lt).1⟩)
theorem AhF_s (g : iG a) (hp : 0 ≤ p ∧ p < 4) (q : isQ a p (l, x)) : AhF a p l x = (l, x) ∨ ((AhF a p l x).1 < l ∨ (AhF a p l x).1 = l ∧ (AhF a p l x).2 < x) := by
  obtain ⟨q1, q2, q3⟩ := q
  have q1 : 0 ≤ l ∧ l < a 1504 282 0 := q1
  have gl := g.1.2.1
  have s := sa_s (x := x) g hp (l := l) ⟨q1.1, by omega⟩
  unfold AhF
  by_cases c : saF (mCL a p l) x (mCL a p l).length 0 (-1) = -1
  · rw [if_pos c]
    have di := bsD_s (a := a) (p := p) l.toNat
    rcases di with ⟨d, -⟩ | ⟨d1, d2, d3⟩
    · rw [if_pos d]; exact Or.inl rfl
    · rw [if_neg (by omega)]; exact Or.inr (Or.inl (by show bsD a p l.toNat < l; omega))
  · rw [if_neg c]
    rcases s with ⟨s1, -⟩ | ⟨s1, s2, -⟩
    · exact absurd s1 c
    · exact Or.inr (Or.inr ⟨rfl, s2⟩)
/-- BACK AND THERE AGAIN: behind what is ahead of what is behind a place is what is behind it -/
theorem BeF_back (g : iG a) (hp : 0 ≤ p ∧ p < 4) (q : isQ a p (l, x)) (mv : ¬ BeF a p l x = (l, x)) (bk : ¬ AhF a p (BeF a p l x).1 (BeF a p l x).2 = BeF a p l x) : BeF a p (AhF a p (BeF a p l x).1 (BeF a p l x).2).1 (AhF a p (BeF a p l x).1 (BeF a p l x).2).2 = BeF a p l x := by
  obtain ⟨q1, q2, q3⟩ := q
  have q1 : 0 ≤ l ∧ l < a 1504 282 0 := q1
  have q2 : 0 ≤ x ∧ x ≤ a 2 284 l := q2
  have q3 : ¬ mInv a p l := q3
  have gl := g.1.2.1
  have gn := g.1.2.2.1
  have s := sbO_s g hp (l := l) (x := x) ⟨q1.1, by omega⟩ (by omega)
  by_cases c : a 2 284 l ≤ x
  · -- the next line
    have c1 := s.1 c
    rcases bsO_s (p := p) g q1 with ⟨d, -⟩ | ⟨d1, d2, d3⟩
    · exact absurd (by unfold BeF; rw [if_pos c1, if_pos d]) mv
    · have eB : BeF a p l x = (bsO a p l, sbO a p (bsO a p l) (-1)) := by unfold BeF; rw [if_pos c1, if_neg (by omega)]
      rw [eB] at bk ⊢
      show BeF a p (AhF a p (bsO a p l) (sbO a p (bsO a p l) (-1))).1 (AhF a p (bsO a p l) (sbO a p (bsO a p l) (-1))).2 = _
      have ln := gn (bsO a p l) (by omega) (by omega)
      have s2 := (sbO_s g hp (l := bsO a p l) (x := -1) ⟨by omega, by omega⟩ (by omega)).2 (by omega)
      have t := sa_s (x := sbO a p (bsO a p l) (-1)) g hp (l := bsO a p l) ⟨by omega, by omega⟩
      have none : saF (mCL a p (bsO a p l)) (sbO a p (bsO a p l) (-1)) (mCL a p (bsO a p l)).length 0 (-1) = -1 := by
        rcases t with ⟨t1, -⟩ | ⟨t1, t2, t3, -⟩
        · exact t1
        · have := s2.2.2.2 _ t3 (by omega)
          omega
      have di := bsD_s (a := a) (p := p) (bsO a p l).toNat
      have dl : bsD a p (bsO a p l).toNat = l := by
        rcases di with ⟨e1, e2⟩ | ⟨e1, e2, e3⟩
        · exact absurd (e2 l (by omega) (by omega)) q3
        · by_cases w : bsD a p (bsO a p l).toNat < l
          · exact absurd (e3 l w (by omega)) q3
          · by_cases w2 : bsD a p (bsO a p l).toNat = l
            · exact w2
            · exact absurd (d3 _ (by omega) (by omega)) e2
      have eA : AhF a p (bsO a p l) (sbO a p (bsO a p l) (-1)) = (l, a 2 284 l) := by unfold AhF; rw [if_pos none, dl, if_neg (by omega)]
      rw [eA]
      show BeF a p l (a 2 284 l) = _
      have c2 := (sbO_s g hp (l := l) (x := a 2 284 l) ⟨q1.1, by omega⟩ (by omega)).1 (Int.le_refl _)
      unfold BeF
      rw [if_pos c2, if_neg (by omega)]
  · -- the same line
    have s2 := s.2 (by omega)
    have eB : BeF a p l x = (l, sbO a p l x) := by unfold BeF; rw [if_neg (by omega)]
    rw [eB] at bk ⊢
    show BeF a p (AhF a p l (sbO a p l x)).1 (AhF a p l (sbO a p l x)).2 = _
    have bk : ¬ AhF a p l (sbO a p l x) = (l, sbO a p l x) := bk
    have t := sa_s (x := sbO a p l x) g hp (l := l) ⟨q1.1, by omega⟩
    rcases t with ⟨t1, t2⟩ | ⟨t1, t2, t3, t4⟩
    · have di := bsD_s (a := a) (p := p) l.toNat
      rcases di with ⟨e1, e2⟩ | ⟨e1, e2, e3⟩
      · exact absurd (by unfold AhF; rw [if_pos t1, if_pos e1]) bk
      · have eA : AhF a p l (sbO a p l x) = (bsD a p l.toNat, a 2 284 (bsD a p l.toNat)) := by unfold AhF; rw [if_pos t1, if_neg (by omega)]
        rw [eA]
        show BeF a p (bsD a p l.toNat) (a 2 284 (bsD a p l.toNat)) = _
        have ln := gn (bsD a p l.toNat) (by omega) (by omega)
        have c2 := (sbO_s g hp (l := bsD a p l.toNat) (x := a 2 284 (bsD a p l.toNat)) ⟨e1.1, by omega⟩ (by omega)).1 (Int.le_refl _)
        have ol : bsO a p (bsD a p l.toNat) = l := by
          rcases bsO_s (p := p) g (l := bsD a p l.toNat) ⟨e1.1, by omega⟩ with ⟨d, d2⟩ | ⟨d1, d2, d3⟩
          · exact absurd (d2 l (by omega) q1.2) q3
          · by_cases w : bsO a p (bsD a p l.toNat) < l
            · exact absurd (e3 _ d1.1 (by omega)) d2
            · by_cases w2 : bsO a p (bsD a p l.toNat) = l
              · exact w2
              · exact absurd (d3 l (by omega) (by omega)) q3
        have s3 := (sbO_s g hp (l := l) (x := -1) ⟨q1.1, by omega⟩ (by omega)).2 (by omega)
        have ev : sbO a p l (-1) = sbO a p l x := by
          have le : sbO a p l (-1) ≤ sbO a p l x := by
            rcases s2.2.2.1 with w | w
            · exact s3.2.2.2 _ w (by omega)
            · omega
          rcases s3.2.2.1 with w | w
          · by_cases w2 : sbO a p l (-1) < sbO a p l x
            · have := t2 _ w w2
              omega
            · omega
          · omega
        unfold BeF
        rw [if_pos c2, ol, if_neg (by omega), ev]
    · have eA : AhF a p l (sbO a p l x) = (l, saF (mCL a p l) (sbO a p l x) (mCL a p l).length 0 (-1)) := by unfold AhF; rw [if_neg (by omega)]
      rw [eA]
      show BeF a p l (saF (mCL a p l) (sbO a p l x) (mCL a p l).length 0 (-1)) = _
      have s3 := (sbO_s g hp (l := l) (x := saF (mCL a p l) (sbO a p l x) (mCL a p l).length 0 (-1)) ⟨q1.1, by omega⟩ (by omega)).2 (by omega)
      have ev : sbO a p l (saF (mCL a p l) (sbO a p l x) (mCL a p l).length 0 (-1)) = sbO a p l x := by
        have le : sbO a p l (saF (mCL a p l) (sbO a p l x) (mCL a p l).length 0 (-1)) ≤ sbO a p l x := by
          rcases s2.2.2.1 with w | w
          · exact s3.2.2.2 _ w (by omega)
          · omega
        rcases s3.2.2.1 with w | w
        · by_cases w2 : sbO a p l (saF (mCL a p l) (sbO a p l x) (mCL a p l).length 0 (-1)) < sbO a p l x
          · have := t4 _ w w2
            omega
          · omega
        · omega
      unfold BeF
      rw [if_neg (by omega), ev]
end FBK
