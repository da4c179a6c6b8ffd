/-! a box of places: the reference finds it -/
abbrev bxT : Type := Int × (Int → Int) × (Int → Int)
def inB (B : bxT) (l x : Int) : Prop := anyI (fun i => B.2.1 i = l ∧ B.2.2 i = x) 0 B.1
def addB (B : bxT) (l x : Int) : bxT := (B.1 + 1, fun i => if i = B.1 then l else B.2.1 i, fun i => if i = B.1 then x else B.2.2 i)
noncomputable def nxB (B : bxT) (l x : Int) : bxT := @ite _ (inB B l x) (Classical.propDecidable _) B (addB B l x)
noncomputable def bxS (a : vH) (p r c : Int) : Nat → bxT
  | 0 => (0, fun _ => 0, fun _ => 0)
  | k + 1 => nxB (bxS a p r c k) (mLn a p (r + k)) (upR a p (r + k) c)
def okB (a : vH) (B : bxT) : Prop := 0 ≤ B.1 ∧ (∀ i, 0 ≤ i → i < B.1 → isP a (B.2.1 i, B.2.2 i)) ∧ ∀ i j, 0 ≤ i → i < j → j < B.1 → ¬ (B.2.1 i = B.2.1 j ∧ B.2.2 i = B.2.2 j)
/-- the box lies in two arrays -/
def hB (h : vH) (A : Int) (B : bxT) : Prop := ∀ i, 0 ≤ i → i < B.1 → h 2 A i = B.2.1 i ∧ h 2 (A + 1) i = B.2.2 i
/-- how many of the first k places are in a line -/
def bC (L : Int → Int) (l : Int) : Nat → Int
  | 0 => 0
  | k + 1 => bC L l k + (if L k = l then 1 else 0)
def okR (a : vH) (B : bxT) (i : Int) : Prop := a 2 284 (B.2.1 i) + bC B.2.1 (B.2.1 i) B.1.toNat ≤ 80
def room (a : vH) (B : bxT) : Prop := ∀ i, 0 ≤ i → i < B.1 → okR a B i
section BOX
variable {h h1 h2 a b : vH} {p P l x s n r c : Int} {B : bxT}
theorem nxB_ok (o : okB a B) (q : isP a (l, x)) : okB a (nxB B l x) ∧ (nxB B l x).1 ≤ B.1 + 1 ∧ B.1 ≤ (nxB B l x).1 := by
  unfold nxB
  by_cases z : inB B l x
  · rw [if_pos z]
    exact ⟨o, by omega, Int.le_refl _⟩
  · rw [if_neg z]
    obtain ⟨o1, o2, o3⟩ := o
    refine ⟨⟨by show 0 ≤ B.1 + 1; omega, fun i u v => ?_, fun i j u v w e => ?_⟩, Int.le_refl _, by show B.1 ≤ B.1 + 1; omega⟩
    · have v' : i < B.1 + 1 := v
      show isP a ((if i = B.1 then l else B.2.1 i), (if i = B.1 then x else B.2.2 i))
      by_cases y : i = B.1
      · rw [if_pos y, if_pos y]; exact q
      · rw [if_neg y, if_neg y]; exact o2 i u (by omega)
    · have w' : j < B.1 + 1 := w
      have e1 : (if i = B.1 then l else B.2.1 i) = (if j = B.1 then l else B.2.1 j) := e.1
      have e2 : (if i = B.1 then x else B.2.2 i) = (if j = B.1 then x else B.2.2 j) := e.2
      rw [if_neg (show ¬ i = B.1 by omega)] at e1 e2
      by_cases y : j = B.1
      · rw [if_pos y] at e1 e2
        exact z ⟨i, u, by omega, e1, e2⟩
      · rw [if_neg y] at e1 e2
        exact o3 i j u v (by omega) ⟨e1, e2⟩
theorem bxS_ok (g : iG a) (hp : 0 ≤ p ∧ p < 4) : ∀ (k : Nat), (∀ i, r ≤ i → i < r + k → isRw a p i) → okB a (bxS a p r c k) ∧ (bxS a p r c k).1 ≤ k
  | 0, _ => ⟨⟨Int.le_refl _, fun i u v => absurd v (by show ¬ i < 0; omega), fun i j u v w => absurd w (by show ¬ j < 0; omega)⟩, Int.le_refl _⟩
  | k + 1, hr => by
    obtain ⟨o1, o2⟩ := bxS_ok g hp k (fun i u v => hr i u (by omega))
    have q := isP_up g hp (x := c) (hr (r + k) (by omega) (by omega))
    obtain ⟨n1, n2, n3⟩ := nxB_ok o1 q
    exact ⟨n1, by show (nxB (bxS a p r c k) (mLn a p (r + k)) (upR a p (r + k) c)).1 ≤ ((k + 1 : Nat) : Int); omega⟩
theorem bC_b {L : Int → Int} : ∀ (k : Nat), 0 ≤ bC L l k ∧ bC L l k ≤ k
  | 0 => ⟨Int.le_refl _, Int.le_refl _⟩
  | k + 1 => by
    have ih := bC_b (L := L) k
    unfold bC
    split <;> omega
theorem M_findsBox (g : iG h) (hp : 0 ≤ p ∧ p < 4) {many : Nat} (m10 : many ≤ 10) (r31 : r + many < 2147483648) (hr : ∀ i, r ≤ i → i < r + many → isRw h p i) : ∃ h2, vcl mX13_findsBox [(1, 282), (0, p), (0, r), (0, (many : Int)), (0, c)] h = some (.inl none, h2) ∧ mF sA2 sT2 h h2 ∧ h2 1562 282 0 = (bxS h p r c many).1 ∧ hB h2 336 (bxS h p r c many) := by
  have inner : ∀ (f : Nat) (k x6 x7 x8 x9 : Int) (h1 : vH) (B : bxT), x9 + f = B.1 → 0 ≤ x9 → B.1 < 10 → -1 ≤ k → k < 100 → shModel h1 → h1 1562 282 0 = B.1 → hB h1 336 B → (x8 = 0 ↔ anyI (fun i => B.2.1 i = x6 ∧ B.2.2 i = x7) 0 x9) → ∃ h2 v8 v9, vrun mX13_findsBox 44 [(1, 282), (0, p), (0, r), (0, (many : Int)), (0, c), (0, k), (0, x6), (0, x7), (0, x8), (0, x9)] [] h1 = vrun mX13_findsBox 8 [(1, 282), (0, p), (0, r), (0, (many : Int)), (0, c), (0, k + 1), (0, x6), (0, x7), (0, v8), (0, v9)] [] h2 ∧ mF sA2 sT2 h1 h2 ∧ h2 1562 282 0 = (nxB B x6 x7).1 ∧ hB h2 336 (nxB B x6 x7) := by
    intro f
    induction f with
    | zero =>
      intro k x6 x7 x8 x9 h1 B hf h9 b10 k0 k1 sM eb hb hx
      have e9 : x9 = B.1 := by omega
      have e0 := rX13_findsBox_44 (x1 := p) (x2 := r) (x3 := (many : Int)) (x4 := c) (x5 := k) (x6 := x6) (x7 := x7) (x8 := x8) (x9 := x9) sM
      rw [show h1 1562 282 0 = B.1 from eb] at e0
      have e1 := (e0 (by omega) (by omega) (by omega) (by omega) (by omega) (by omega) (by omega) (by omega)).trans (if_pos (by omega))
      rw [e9] at hx
      by_cases z : inB B x6 x7
      · rw [if_pos (hx.mpr z)] at e1
        refine ⟨h1, x8, x9, e1, mF_rf, ?_, ?_⟩
        · unfold nxB; rw [if_pos z]; exact eb
        · unfold nxB; rw [if_pos z]; exact hb
      · rw [if_neg (fun w => z (hx.mp w))] at e1
        refine ⟨_, x8, x9, e1, mF_up (mF_up (mF_up mF_rf (Or.inl ⟨rfl, by simp⟩)) (Or.inl ⟨rfl, by simp⟩)) (Or.inr ⟨rfl, by simp⟩), ?_, ?_⟩
        · unfold nxB; rw [if_neg z]; exact vup_s
        · unfold nxB; rw [if_neg z]
          intro i u v
          have v' : i < B.1 + 1 := v
          show vup (vup (vup h1 2 336 B.1 x6) 2 337 B.1 x7) 1562 282 0 (B.1 + 1) 2 336 i = (if i = B.1 then x6 else B.2.1 i) ∧ vup (vup (vup h1 2 336 B.1 x6) 2 337 B.1 x7) 1562 282 0 (B.1 + 1) 2 (336 + 1) i = (if i = B.1 then x7 else B.2.2 i)
          rw [vup_k (by decide), vup_r (by decide), vup_2, vup_k (by decide), show (336 : Int) + 1 = 337 by decide, vup_2]
          by_cases y : i = B.1
          · rw [if_pos y, if_pos y, if_pos y, if_pos y]; exact ⟨rfl, rfl⟩
          · rw [if_neg y, if_neg y, if_neg y, if_neg y, vup_r (by decide)]
            exact hb i u (by omega)
    | succ f ih =>
      intro k x6 x7 x8 x9 h1 B hf h9 b10 k0 k1 sM eb hb hx
      have e0 := rX13_findsBox_44 (x1 := p) (x2 := r) (x3 := (many : Int)) (x4 := c) (x5 := k) (x6 := x6) (x7 := x7) (x8 := x8) (x9 := x9) sM
      obtain ⟨b1, b2⟩ := hb x9 h9 (by omega)
      rw [show h1 1562 282 0 = B.1 from eb, b1, show h1 2 337 x9 = B.2.2 x9 from b2] at e0
      have e1 := (e0 (by omega) (by omega) (by omega) (by omega) (by omega) (by omega) (by omega) (by omega)).trans (if_neg (by omega))
      obtain ⟨h2, v8, v9, q⟩ := ih k x6 x7 (if ¬ (x8 = 0) ∧ (¬ (B.2.1 x9 = x6) ∨ ¬ (B.2.2 x9 = x7)) then 1 else 0) (x9 + 1) h1 B (by omega) (by omega) b10 k0 k1 sM eb hb (by
        constructor
        · intro w
          by_cases y : ¬ (x8 = 0) ∧ (¬ (B.2.1 x9 = x6) ∨ ¬ (B.2.2 x9 = x7))
          · rw [if_pos y] at w; exact absurd w (by decide)
          · by_cases t : x8 = 0
            · obtain ⟨j, u, v, w'⟩ := hx.mp t
              exact ⟨j, u, by omega, w'⟩
            · exact ⟨x9, h9, by omega, by
                refine ⟨Classical.byContradiction (fun n => y ⟨t, Or.inl n⟩), Classical.byContradiction (fun n => y ⟨t, Or.inr n⟩)⟩⟩
        · rintro ⟨j, u, v, w⟩
          refine if_neg (fun y => ?_)
          by_cases t : j = x9
          · rw [t] at w
            exact y.2.elim (fun n => n w.1) (fun n => n w.2)
          · exact y.1 (hx.mpr ⟨j, u, by omega, w⟩))
      exact ⟨h2, v8, v9, e1.trans q.1, q.2⟩
  have loop : ∀ (f k : Nat) (h1 : vH) (v6 v7 v8 v9 : vv), k + f = many → mF sA2 sT2 h h1 → h1 1562 282 0 = (bxS h p r c k).1 → hB h1 336 (bxS h p r c k) → ∃ h2, vrun mX13_findsBox 8 [(1, 282), (0, p), (0, r), (0, (many : Int)), (0, c), (0, (k : Int)), v6, v7, v8, v9] [] h1 = some (.inl none, h2) ∧ mF sA2 sT2 h h2 ∧ h2 1562 282 0 = (bxS h p r c many).1 ∧ hB h2 336 (bxS h p r c many) := by
    intro f
    induction f with
    | zero =>
      intro k h1 v6 v7 v8 v9 hf F eb hb
      have ek : k = many := by omega
      subst ek
      have sM := (iG_m2 F g).1.1
      exact ⟨h1, (rX13_findsBox_8 (by omega) (by omega) sM).trans (if_pos (by omega)), F, eb, hb⟩
    | succ f ih =>
      intro k h1 v6 v7 v8 v9 hf F eb hb
      have g1 := iG_m2 F g
      have y1 := (m2_A F).1
      have R := hr (r + k) (by omega) (by omega)
      have R0 : 0 ≤ r + (k : Int) := R.1
      have R1 : isRw h1 p (r + k) := (isRw_eq (m2_A F)).mpr R
      obtain ⟨o1, o2⟩ := bxS_ok (c := c) g hp k (fun i u v => hr i u (by omega))
      obtain ⟨h3, a1, a2⟩ := M_lineOf g1.1 hp R1 (by omega)
      rw [mLn_eq y1] at a1
      have F3 : mF sA2 sT2 h h3 := mF_tr F (sT2_of (sT_of a2))
      have g3 := iG_m2 F3 g
      have y3 := (m2_A F3).1
      have R3 : isRw h3 p (r + k) := (isRw_eq (m2_A F3)).mpr R
      obtain ⟨h4, b1, b2⟩ := M_upR (x := c) g3.1 hp R3
      rw [upR_eq y3] at b1
      have F4 : mF sA2 sT2 h h4 := mF_tr F3 (sT2_of (sT_of b2))
      have sM4 := (iG_m2 F4 g).1.1
      have e4 : h4 1562 282 0 = (bxS h p r c k).1 := (b2 _ _ _ (by simp) (by simp)).trans ((a2 _ _ _ (by simp) (by simp)).trans eb)
      have hb4 : hB h4 336 (bxS h p r c k) := fun i u v => by
        rw [b2 2 336 i (by simp) (by simp), a2 2 336 i (by simp) (by simp), b2 2 (336 + 1) i (by simp) (by simp), a2 2 (336 + 1) i (by simp) (by simp)]
        exact hb i u v
      obtain ⟨h5, w8, w9, q1, q2, q3, q4⟩ := inner (bxS h p r c k).1.toNat k (mLn h p (r + k)) (upR h p (r + k) c) 1 0 h4 (bxS h p r c k) (by have := o1.1; omega) (Int.le_refl _) (by omega) (by omega) (by omega) sM4 e4 hb4 ⟨fun w => absurd w (by decide), fun ⟨j, u, v, _⟩ => absurd v (by omega)⟩
      obtain ⟨h6, t1, t2⟩ := ih (k + 1) h5 (0, mLn h p (r + k)) (0, upR h p (r + k) c) (0, w8) (0, w9) (by omega) (mF_tr F4 q2) q3 q4
      refine ⟨h6, ?_, t2⟩
      rw [show (((k + 1 : Nat)) : Int) = (k : Int) + 1 by omega] at t1
      exact (rX13_findsBox_8 (by omega) (by omega) g1.1.1).trans ((if_neg (by omega)).trans ((vret_v a1).trans ((rX13_findsBox_23 (by omega) (by omega) g3.1.1).trans ((vret_v b1).trans (rX13_findsBox_36.trans (q1.trans t1))))))
  obtain ⟨h2, q1, q2⟩ := loop many 0 (vup h 1562 282 0 0) (9, 0) (9, 0) (9, 0) (9, 0) (by omega) (mF_up mF_rf (Or.inr ⟨rfl, by simp⟩)) vup_s (fun i u v => absurd v (by show ¬ i < 0; omega))
  exact ⟨h2, (show _ = _ from rX13_findsBox_0 g.1.1).trans q1, q2⟩
theorem M_boxRoom (sM : shModel h) (eb : h 1562 282 0 = B.1) (hb : hB h 336 B) (b10 : 0 ≤ B.1 ∧ B.1 ≤ 10) (gl : ∀ i, 0 ≤ i → i < B.1 → (0 ≤ B.2.1 i ∧ B.2.1 i < 60) ∧ 0 ≤ h 2 284 (B.2.1 i) ∧ h 2 284 (B.2.1 i) ≤ 80) : ∃ v, vcl mX13_hasBoxRoom [(1, 282)] h = some (.inl (some (0, v)), h) ∧ (v = 0 ↔ ¬ room h B) := by
  have inner : ∀ (f e : Nat) (x1 x2 : Int), (e : Int) + f = B.1 → 0 ≤ x2 → x2 < B.1 → vrun mX13_hasBoxRoom 27 [(1, 282), (0, x1), (0, x2), (0, h 2 284 (B.2.1 x2) + bC B.2.1 (B.2.1 x2) e), (0, (e : Int))] [] h = vrun mX13_hasBoxRoom 4 [(1, 282), (0, (if ¬ (x1 = 0) ∧ ¬ (80 < h 2 284 (B.2.1 x2) + bC B.2.1 (B.2.1 x2) B.1.toNat) then 1 else 0)), (0, x2 + 1), (0, h 2 284 (B.2.1 x2) + bC B.2.1 (B.2.1 x2) B.1.toNat), (0, B.1)] [] h := by
    intro f
    induction f with
    | zero =>
      intro e x1 x2 he u v
      have ee : e = B.1.toNat := by omega
      have e0 := (rX13_hasBoxRoom_27 (x1 := x1) (x2 := x2) (x3 := h 2 284 (B.2.1 x2) + bC B.2.1 (B.2.1 x2) e) (x4 := (e : Int)) sM (by omega) (by omega) (by omega) (by omega) (by omega) (by omega) (by omega) (by omega)).trans (if_pos (by omega))
      rw [ee] at e0 ⊢
      rw [show ((B.1.toNat : Nat) : Int) = B.1 by omega] at e0 ⊢
      exact e0
    | succ f ih =>
      intro e x1 x2 he u v
      have k1 := bC_b (L := B.2.1) (l := B.2.1 x2) e
      have gx := gl x2 u v
      have b1 := (hb (e : Int) (by omega) (by omega)).1
      have b2 := (hb x2 u v).1
      have e0 := rX13_hasBoxRoom_27 (x1 := x1) (x2 := x2) (x3 := h 2 284 (B.2.1 x2) + bC B.2.1 (B.2.1 x2) e) (x4 := (e : Int)) sM
      rw [b1, b2] at e0
      have e1 := (e0 (by omega) (by omega) (by omega) (by omega) (by omega) (by omega) (by split <;> omega) (by split <;> omega)).trans (if_neg (by omega))
      have ih' := ih (e + 1) x1 x2 (by omega) u v
      rw [show (((e + 1 : Nat)) : Int) = (e : Int) + 1 by omega] at ih'
      refine e1.trans (Eq.trans ?_ ih')
      have e2 : h 2 284 (B.2.1 x2) + bC B.2.1 (B.2.1 x2) e + (if B.2.1 (e : Int) = B.2.1 x2 then 1 else 0) = h 2 284 (B.2.1 x2) + bC B.2.1 (B.2.1 x2) (e + 1) := by
        show _ = h 2 284 (B.2.1 x2) + (bC B.2.1 (B.2.1 x2) e + (if B.2.1 (e : Int) = B.2.1 x2 then 1 else 0))
        omega
      rw [e2]
  have loop : ∀ (f : Nat) (x1 x2 : Int) (v3 v4 : vv), x2 + f = B.1 → 0 ≤ x2 → (x1 = 0 ∨ x1 = 1) → (x1 = 0 ↔ ¬ ∀ i, 0 ≤ i → i < x2 → okR h B i) → ∃ v, vrun mX13_hasBoxRoom 4 [(1, 282), (0, x1), (0, x2), v3, v4] [] h = some (.inl (some (0, v)), h) ∧ (v = 0 ↔ ¬ room h B) := by
    intro f
    induction f with
    | zero =>
      intro x1 x2 v3 v4 hf h2 h01 hx
      have e2 : x2 = B.1 := by omega
      have e0 := rX13_hasBoxRoom_4 (x1 := x1) (x2 := x2) (v3 := v3) (v4 := v4) sM
      rw [show h 1562 282 0 = B.1 from eb] at e0
      refine ⟨x1, (e0 (fun _ => h01) (by omega) (by omega) (by omega) (by omega)).trans (if_pos (by omega)), ?_⟩
      rw [e2] at hx
      exact hx
    | succ f ih =>
      intro x1 x2 v3 v4 hf h2 h01 hx
      have b1 := (hb x2 h2 (by omega)).1
      have gx := gl x2 h2 (by omega)
      have e0 := rX13_hasBoxRoom_4 (x1 := x1) (x2 := x2) (v3 := v3) (v4 := v4) sM
      rw [show h 1562 282 0 = B.1 from eb, b1] at e0
      have e1 := (e0 (by omega) (by omega) (by omega) (fun _ => gx.1.1) (fun _ => gx.1.2)).trans (if_neg (by omega))
      have e2 := inner B.1.toNat 0 x1 x2 (by omega) h2 (by omega)
      have e3 : h 2 284 (B.2.1 x2) + bC B.2.1 (B.2.1 x2) 0 = h 2 284 (B.2.1 x2) := Int.add_zero _
      rw [e3] at e2
      obtain ⟨v, q1, q2⟩ := ih (if ¬ (x1 = 0) ∧ ¬ (80 < h 2 284 (B.2.1 x2) + bC B.2.1 (B.2.1 x2) B.1.toNat) then 1 else 0) (x2 + 1) (0, h 2 284 (B.2.1 x2) + bC B.2.1 (B.2.1 x2) B.1.toNat) (0, B.1) (by omega) (by omega) (by split <;> decide) (by
        constructor
        · intro w k
          have k1 : ¬ (x1 = 0) := fun z => hx.mp z (fun i u v => k i u (by omega))
          have k2 := k x2 h2 (by omega)
          unfold okR at k2
          rw [if_pos ⟨k1, by omega⟩] at w
          exact absurd w (by decide)
        · intro w
          refine if_neg (fun z => w (fun i u v => ?_))
          by_cases t : i = x2
          · rw [t]
            unfold okR
            omega
          · exact Classical.byContradiction (fun n => z.1 (hx.mpr (fun k => n (k i u (by omega))))))
      exact ⟨v, e1.trans (e2.trans q1), q2⟩
  obtain ⟨v, q1, q2⟩ := loop B.1.toNat 1 0 (9, 0) (9, 0) (by omega) (Int.le_refl _) (Or.inr rfl) ⟨fun w => absurd w (by decide), fun w => absurd (fun i u v => absurd v (by omega)) w⟩
  exact ⟨v, (show _ = _ from rX13_hasBoxRoom_0).trans q1, q2⟩
end BOX
