/-! draw: the reference compares and keeps -/
def sameR (a : vH) (p t k at_ : Int) : Prop := (0 ≤ at_ ∧ at_ < a 2 329 p) ∧ (dN a p t k = a 2 327 (24 * p + at_) ∧ dM a p t k = a 2 328 (24 * p + at_)) ∧ ∀ c, 0 ≤ c → c < dN a p t k → pkV a p (t + k) c = a 2 326 (132 * (24 * p + at_) + c)
noncomputable def tD (a : vH) (p t by_ : Int) : Nat → Int
  | 0 => 0
  | k + 1 => tD a p t by_ k + (if b2i (sameR a p t k (k + by_)) = 0 then 1 else 0)
def bdU (q : Int × Int) (by_ n : Int) : Int × Int := (if q.2 ≤ n then q.1 else by_, if q.2 ≤ n then q.2 else n)
noncomputable def bdS (a : vH) (p t : Int) : Nat → Int × Int
  | 0 => (0, tD a p t 0 (a 2 310 p).toNat)
  | k + 1 => bdU (bdU (bdS a p t k) ((k : Int) + 1) (tD a p t ((k : Int) + 1) (a 2 310 p).toNat)) (-((k : Int) + 1)) (tD a p t (-((k : Int) + 1)) (a 2 310 p).toNat)
/-- rows are kept: many and marks of J, the cells of K and c more -/
noncomputable def kpR (a : vH) (p t K J c : Int) : vH := fun k r i => if k = 2 ∧ r = 329 ∧ i = p then a 2 310 p else if k = 2 ∧ r = 327 ∧ 24 * p ≤ i ∧ i < 24 * p + J then dN a p t (i - 24 * p) else if k = 2 ∧ r = 328 ∧ 24 * p ≤ i ∧ i < 24 * p + J then dM a p t (i - 24 * p) else if k = 2 ∧ r = 326 ∧ 3168 * p ≤ i ∧ ((i - 3168 * p) / 132 < K ∧ (i - 3168 * p) % 132 < dN a p t ((i - 3168 * p) / 132) ∨ (i - 3168 * p) / 132 = K ∧ (i - 3168 * p) % 132 < c) then pkV a p (t + (i - 3168 * p) / 132) ((i - 3168 * p) % 132) else a k r i
section DR2
variable {h h1 h2 a b : vH} {p t l x r k c K J : Int}
theorem M_tellsRows (g : iG h) (i : iH h) (V : iVs h) (hp : 0 ≤ p ∧ p < 4) (hH : 0 ≤ h 2 310 p ∧ h 2 310 p ≤ 24) : ∃ h2, vcl mX13_tellsRows [(1, 282), (0, p)] h = some (.inl none, h2) ∧ mF sA2 sT2 h h2 ∧ told h2 h p (toR h p) (h 2 310 p) ∧ h2 1500 282 0 = h 1500 282 0 := by
  have T0 := to_in g hp
  have al := mAll_in g.1 hp
  have t0 := isRw_all.mp T0
  have gl := g.1.2.1
  have loop : ∀ (f : Nat) (k : Int) (h1 : vH) (v5 v6 v7 v8 : vv), k + f = h 2 310 p → 0 ≤ k → mF sA2 sT2 h h1 → told h1 h p (toR h p) k → ∃ h2, vrun mX13_tellsRows 19 [(1, 282), (0, p), (0, toR h p), (0, mAll h p), (0, k), v5, v6, v7, v8] [] h1 = some (.inl none, h2) ∧ mF sA2 sT2 h h2 ∧ told h2 h p (toR h p) (h 2 310 p) ∧ h2 1500 282 0 = h1 1500 282 0 := by
    intro f
    induction f with
    | zero =>
      intro k h1 v5 v6 v7 v8 hf h0 F T
      have sM := (iG_m2 F g).1.1
      have eH : h1 2 310 p = h 2 310 p := m2_r F (by decide)
      have ek : k = h 2 310 p := by omega
      rw [ek] at T ⊢
      exact ⟨h1, (rX13_tellsRows_19 sM hp.1 hp.2 (by omega) (by omega) (by omega) (by omega)).trans (if_pos (by omega)), F, T, rfl⟩
    | succ f ih =>
      intro k h1 v5 v6 v7 v8 hf h0 F T
      have sM := (iG_m2 F g).1.1
      have eH : h1 2 310 p = h 2 310 p := m2_r F (by decide)
      have e0 := (rX13_tellsRows_19 (x1 := p) (x2 := toR h p) (x3 := mAll h p) (x4 := k) (v5 := v5) (v6 := v6) (v7 := v7) (v8 := v8) sM hp.1 hp.2 (by omega) (by omega) (by omega) (by omega)).trans (if_neg (by omega))
      by_cases z : mAll h p ≤ toR h p + k
      · rw [if_pos z] at e0
        obtain ⟨h2, q1, q2, q3, q4⟩ := ih (k + 1) (vup (vup h1 2 332 k (-1)) 2 333 k 0) v5 v6 v7 v8 (by omega) (by omega) (mF_up (mF_up F (Or.inl ⟨rfl, by simp⟩)) (Or.inl ⟨rfl, by simp⟩)) (fun k' u v => by
          by_cases y : k' = k
          · subst y
            have eN : dN h p (toR h p) k' = -1 := if_neg (by omega)
            have eM : dM h p (toR h p) k' = 0 := if_neg (by omega)
            refine ⟨?_, ?_, fun c s w => absurd w (by omega)⟩
            · rw [eN, vup_r (by decide)]; exact vup_s
            · rw [eM]; exact vup_s
          · obtain ⟨T1, T2, T3⟩ := T k' u (by omega)
            refine ⟨?_, ?_, fun c s w => ?_⟩
            · rw [vup_r (by decide), vup_i y]; exact T1
            · rw [vup_i y, vup_r (by decide)]; exact T2
            · rw [vup_r (by decide), vup_r (by decide)]; exact T3 c s w)
        exact ⟨h2, e0.trans q1, q2, q3, q4.trans ((vup_k (by decide)).trans (vup_k (by decide)))⟩
      · rw [if_neg z] at e0
        obtain ⟨h3, w5, w6, w7, w8, r1, r2, r3, r4⟩ := M_tellRow (x3 := mAll h p) (v5 := v5) (v6 := v6) (v7 := v7) (v8 := v8) g i V hp ⟨t0.1, by omega⟩ ⟨h0, by omega⟩ (by omega) F T
        obtain ⟨h2, q1, q2, q3, q4⟩ := ih (k + 1) h3 w5 w6 w7 w8 (by omega) (by omega) r2 r3
        exact ⟨h2, e0.trans (r1.trans q1), q2, q3, q4.trans r4⟩
  obtain ⟨h1, a1, a2⟩ := M_topRow g hp
  have g1 := iG_sc a2 g
  have y1 := eqA_sc a2
  have eL : h1 1504 282 0 = h 1504 282 0 := a2 _ _ _ (by decide) (by decide)
  have en : (((h 1504 282 0).toNat : Nat) : Int) = h 1504 282 0 := by omega
  obtain ⟨h2, b1, b2⟩ := M_rowsAhead g1.1 hp (n := (h 1504 282 0).toNat) (by omega)
  rw [en, mRA_eq y1.1] at b1
  have F2 : mF sA2 sT2 h h2 := sT2_of (sT_of (mF_tr a2 b2))
  obtain ⟨h3, q1, q2, q3, q4⟩ := loop (h 2 310 p).toNat 0 h2 (9, 0) (9, 0) (9, 0) (9, 0) (by omega) (Int.le_refl _) F2 (fun k' u v => by omega)
  have e5 := rX13_tellsRows_5 (x1 := p) (y0 := toR h p) g1.1.1
  rw [eL] at e5
  exact ⟨h3, (show _ = _ from rX13_tellsRows_0 g.1.1).trans ((vret_v a1).trans (e5.trans ((vret_v b1).trans (rX13_tellsRows_15.trans q1)))), q2, q3, q4.trans ((b2 _ _ _ (by decide) (by decide)).trans (a2 _ _ _ (by decide) (by decide)))⟩
theorem M_isSameR (g : iG h) (i : iH h) (hp : 0 ≤ p ∧ p < 4) (ht : 0 ≤ t) {H : Int} (hH : H ≤ 24) (F : mF sA2 sT2 h h1) (T : told h1 h p t H) (hk : 0 ≤ k ∧ k < H) {at_ : Int} (ha : -100 ≤ at_ ∧ at_ ≤ 100) : vcl mX13_isSame [(1, 282), (0, p), (0, k), (0, at_)] h1 = some (.inl (some (0, b2i (sameR h p t k at_))), h1) := by
  have sM := (iG_m2 F g).1.1
  have e : ∀ r j : Int, r = 326 ∨ r = 327 ∨ r = 328 ∨ r = 329 → h1 2 r j = h 2 r j := fun r j hr => F 2 r j (fun w => by rcases hr with e | e | e | e <;> (rw [e] at w; exact absurd w.2 (by decide))) (fun w => by omega)
  have dr := (i.2.2.2.2.2.1 p hp.1 hp.2).1
  obtain ⟨T1, T2, T3⟩ := T k hk.1 hk.2
  have dn := dN_in g hp ht hk.1
  have e0 := (show vcl mX13_isSame [(1, 282), (0, p), (0, k), (0, at_)] h1 = _ from rX13_isSame_0 (x1 := p) (x2 := k) (x3 := at_) sM hp.1 hp.2 (by rw [e 329 _ (by decide)]; omega) (by rw [e 329 _ (by decide)]; omega) (by rw [e 329 _ (by decide)]; omega) (by rw [e 329 _ (by decide)]; omega) (by rw [e 329 _ (by decide)]; omega) (by rw [e 329 _ (by decide)]; omega) (by omega) (by omega) (by rw [e 329 _ (by decide)]; omega) (by rw [e 329 _ (by decide)]; omega))
  rw [e 329 _ (by decide), e 327 _ (by decide), e 328 _ (by decide), T1, T2] at e0
  by_cases z : 0 ≤ at_ ∧ at_ < h 2 329 p
  · have z' : ¬ (at_ < 0) ∧ ¬ (h 2 329 p - 1 < at_) := ⟨by omega, by have := z.2; omega⟩
    rw [if_pos z'] at e0
    have loop : ∀ (f : Nat) (c x5 : Int), c + f = 132 → 0 ≤ c → (x5 = 0 ∨ x5 = 1) → vrun mX13_isSame 68 [(1, 282), (0, p), (0, k), (0, at_), (0, 24 * p + at_), (0, x5), (0, c)] [] h1 = some (.inl (some (0, b2i (x5 = 1 ∧ ∀ c', c ≤ c' → c' < dN h p t k → pkV h p (t + k) c' = h 2 326 (132 * (24 * p + at_) + c')))), h1) := by
      intro f
      induction f with
      | zero =>
        intro c x5 hf h0 h5
        have r0 := (rX13_isSame_68 (x1 := p) (x2 := k) (x3 := at_) (x4 := 24 * p + at_) (x5 := x5) (x6 := c) sM hk.1 (by omega) (fun _ => h5) (fun _ _ => h5) (by omega) (by omega) (by omega) (by omega) (by omega) (by omega) (by omega) (by omega) (by omega) (by omega) (by omega) (by omega) (by omega) (by omega)).trans (if_pos (by omega))
        rw [r0]
        rcases h5 with y | y
        · rw [b2i_f (fun w => by omega), y]
        · rw [b2i_t ⟨y, fun c' u v => absurd v (by omega)⟩, y]
      | succ f ih =>
        intro c x5 hf h0 h5
        have e1 := rX13_isSame_68 (x1 := p) (x2 := k) (x3 := at_) (x4 := 24 * p + at_) (x5 := x5) (x6 := c) sM hk.1 (by omega) (fun _ => h5) (fun _ _ => h5) (by omega) (by omega) (by omega) (by omega) (by omega) (by omega) (by omega) (by omega) (by omega) (by omega) (by omega) (by omega) (by omega) (by omega)
        rw [T1] at e1
        by_cases d : dN h p t k ≤ c
        · rw [if_pos d] at e1
          rw [e1]
          rcases h5 with y | y
          · rw [b2i_f (fun w => by omega), y]
          · rw [b2i_t ⟨y, fun c' u v => absurd v (by omega)⟩, y]
        · rw [if_neg d] at e1
          rcases h5 with y | y
          · rw [if_pos y] at e1
            rw [e1, b2i_f (fun w => by omega), y]
          · rw [if_neg (by omega), T3 c h0 (by omega), e 326 _ (by decide)] at e1
            refine e1.trans ((ih (c + 1) _ (by omega) (by omega) (by split <;> omega)).trans ?_)
            have q : ((if pkV h p (t + k) c = h 2 326 (132 * (24 * p + at_) + c) then (1 : Int) else 0) = 1 ∧ ∀ c', c + 1 ≤ c' → c' < dN h p t k → pkV h p (t + k) c' = h 2 326 (132 * (24 * p + at_) + c')) ↔ (x5 = 1 ∧ ∀ c', c ≤ c' → c' < dN h p t k → pkV h p (t + k) c' = h 2 326 (132 * (24 * p + at_) + c')) := by
              constructor
              · rintro ⟨w1, w2⟩
                have w3 : pkV h p (t + k) c = h 2 326 (132 * (24 * p + at_) + c) := Classical.byContradiction (fun n => by rw [if_neg n] at w1; exact absurd w1 (by decide))
                refine ⟨y, fun c' u v => ?_⟩
                by_cases s : c' = c
                · rw [s]; exact w3
                · exact w2 c' (by omega) v
              · rintro ⟨w1, w2⟩
                exact ⟨if_pos (w2 c (Int.le_refl _) (by omega)), fun c' u v => w2 c' (by omega) v⟩
            rw [b2i_c q]
    refine e0.trans ((loop 132 0 _ (by decide) (Int.le_refl _) (by split <;> omega)).trans ?_)
    have q : ((if dN h p t k = h 2 327 (24 * p + at_) ∧ dM h p t k = h 2 328 (24 * p + at_) then (1 : Int) else 0) = 1 ∧ ∀ c', 0 ≤ c' → c' < dN h p t k → pkV h p (t + k) c' = h 2 326 (132 * (24 * p + at_) + c')) ↔ sameR h p t k at_ := by
      constructor
      · rintro ⟨w1, w2⟩
        exact ⟨z, Classical.byContradiction (fun n => by rw [if_neg n] at w1; exact absurd w1 (by decide)), w2⟩
      · rintro ⟨w1, w2, w3⟩
        exact ⟨if_pos w2, w3⟩
    rw [b2i_c q]
  · have z' : ¬ (¬ (at_ < 0) ∧ ¬ (h 2 329 p - 1 < at_)) := fun w => z ⟨by omega, by have := w.2; show at_ < h 2 329 p; omega⟩
    rw [if_neg z'] at e0
    rw [e0, b2i_f (fun w => z w.1)]
theorem tD_in {by_ : Int} : ∀ k : Nat, 0 ≤ tD a p t by_ k ∧ tD a p t by_ k ≤ k
  | 0 => ⟨Int.le_refl _, Int.le_refl _⟩
  | k + 1 => by
    have ih := tD_in (by_ := by_) k
    unfold tD
    split <;> omega
theorem M_toDraw (g : iG h) (i : iH h) (hp : 0 ≤ p ∧ p < 4) (ht : 0 ≤ t) (hH : 0 ≤ h 2 310 p ∧ h 2 310 p ≤ 24) (F : mF sA2 sT2 h h1) (T : told h1 h p t (h 2 310 p)) {by_ : Int} (hb : -24 ≤ by_ ∧ by_ ≤ 24) : vcl mX13_toDraw [(1, 282), (0, p), (0, by_)] h1 = some (.inl (some (0, tD h p t by_ (h 2 310 p).toNat)), h1) := by
  have sM := (iG_m2 F g).1.1
  have eH : h1 2 310 p = h 2 310 p := m2_r F (by decide)
  have loop : ∀ (f k : Nat), (k : Int) + f = h 2 310 p → vrun mX13_toDraw 5 [(1, 282), (0, p), (0, by_), (0, tD h p t by_ k), (0, (k : Int))] [] h1 = some (.inl (some (0, tD h p t by_ (h 2 310 p).toNat)), h1) := by
    intro f
    induction f with
    | zero =>
      intro k hk
      rw [show (h 2 310 p).toNat = k by omega]
      exact (rX13_toDraw_5 sM hp.1 hp.2 (by omega) (by omega)).trans (if_pos (by omega))
    | succ f ih =>
      intro k hk
      have q := tD_in (a := h) (p := p) (t := t) (by_ := by_) k
      have e1 := M_isSameR g i hp ht hH.2 F T (k := (k : Int)) ⟨by omega, by omega⟩ (at_ := (k : Int) + by_) ⟨by omega, by omega⟩
      have ih' := ih (k + 1) (by omega)
      rw [show (((k + 1 : Nat)) : Int) = (k : Int) + 1 by omega] at ih'
      exact (rX13_toDraw_5 sM hp.1 hp.2 (by omega) (by omega)).trans ((if_neg (by omega)).trans ((vret_v e1).trans ((rX13_toDraw_28 (by split <;> omega) (by split <;> omega) (by omega) (by omega)).trans ih')))
  exact (show _ = _ from rX13_toDraw_0).trans (loop (h 2 310 p).toNat 0 (by omega))
end DR2
