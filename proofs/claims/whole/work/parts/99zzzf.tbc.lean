/-! typeBox: the class -/
section TBC
variable {h h1 h2 h3 a b : vH} {p P l x s n r m c i j v w : Int} {B : bxT}
/-- what the loop keeps, and counts -/
def KR (h h1 : vH) : Prop := kR h h1 ∧ h1 4 0 0 = h 4 0 0 ∧ h1 5 0 0 = h 5 0 0
theorem KR_tr (x : KR h h1) (y : KR h1 h2) : KR h h2 := ⟨fun k r i u => (y.1 k r i u).trans (x.1 k r i u), y.2.1.trans x.2.1, y.2.2.trans x.2.2⟩
theorem KR_bx : KR h (vup (vup h 2 136 i v) 2 137 i w) := ⟨fun k r j u => by
  unfold vup
  rw [if_neg (by omega), if_neg (by omega)], rfl, rfl⟩
theorem cAll_bx (c : cAll h a) : cAll (vup (vup h 2 136 i v) 2 137 i w) a := cAll_kL (fun k r j u z => by
  unfold vup
  rw [if_neg (by omega), if_neg (by omega)]) (sx_up rfl (sx_up rfl sx_rf)) (fun _ _ _ _ _ => rfl) c c.2.2.2.1 c.2.2.2.2.1
theorem cRd_bx (hp : 0 ≤ p ∧ p < 4) (A : cAll (vup (vup h 2 136 i v) 2 137 i w) a) (r : cRd h a p (138 + 36 * p)) : cRd (vup (vup h 2 136 i v) 2 137 i w) a p (138 + 36 * p) := ⟨A.2.1, (A.2.2.1 p hp.1 hp.2).2.1.1, (A.2.2.1 p hp.1 hp.2).2.1.2.1, (A.2.2.1 p hp.1 hp.2).2.1.2.2, r.2.2.2.2⟩
theorem C_isInBox (s1 : shPL h) (hb : hB h 136 B) (b10 : 0 ≤ B.1 ∧ B.1 ≤ 10) : vcl mX12_isInBox [(1, 3), (0, B.1), (0, l), (0, x)] h = some (.inl (some (0, b2i (inB B l x))), h) := by
  have loop : ∀ (f : Nat) (j : Int), j + f = B.1 → 0 ≤ j → vrun mX12_isInBox 3 [(1, 3), (0, B.1), (0, l), (0, x), (0, j)] [] h = some (.inl (some (0, b2i (anyI (fun i => B.2.1 i = l ∧ B.2.2 i = x) j B.1))), h) := by
    intro f
    induction f with
    | zero =>
      intro j hj h0
      rw [b2i_f (show ¬ anyI (fun i => B.2.1 i = l ∧ B.2.2 i = x) j B.1 from fun ⟨i, u, v, _⟩ => absurd v (by omega))]
      exact (rX12_isInBox_3 s1 (by omega)).trans (if_pos (by omega))
    | succ f ih =>
      intro j hj h0
      have e0 := rX12_isInBox_3 (x1 := B.1) (x2 := l) (x3 := x) (x4 := j) s1 (by omega)
      obtain ⟨b1, b2⟩ := hb j h0 (by omega)
      rw [b1, show h 2 137 j = B.2.2 j from b2, if_neg (by omega), if_neg (by omega)] at e0
      have ih' := ih (j + 1) (by omega) (by omega)
      have st : ∀ z : ¬ (B.2.1 j = l ∧ B.2.2 j = x), b2i (anyI (fun i => B.2.1 i = l ∧ B.2.2 i = x) j B.1) = b2i (anyI (fun i => B.2.1 i = l ∧ B.2.2 i = x) (j + 1) B.1) := fun z => b2i_c ⟨fun ⟨i, u, v, w⟩ => ⟨i, by
        by_cases t : i = j
        · rw [t] at w; exact absurd w z
        · omega, v, w⟩, fun ⟨i, u, v, w⟩ => ⟨i, by omega, v, w⟩⟩
      by_cases z1 : B.2.1 j = l
      · rw [if_pos z1] at e0
        by_cases z2 : B.2.2 j = x
        · rw [if_pos z2] at e0
          rw [b2i_t ⟨j, Int.le_refl _, by omega, z1, z2⟩]
          exact e0
        · rw [if_neg z2] at e0
          rw [st (fun w => z2 w.2)]
          exact e0.trans ih'
      · rw [if_neg z1] at e0
        rw [st (fun w => z1 w.1)]
        exact e0.trans ih'
  exact (show _ = _ from rX12_isInBox_0).trans (loop B.1.toNat 0 (by omega) (Int.le_refl _))
theorem C_findBox (g : iG a) (hp : 0 ≤ p ∧ p < 4) {many : Nat} (m10 : many ≤ 10) (c0 : cAll h a) (r0 : cRd h a p (138 + 36 * p)) (hr : ∀ i, r ≤ i → i < r + many → isRw a p i) : ∃ h2, vcl mX12_findBox [(1, 3), (1, 138 + 36 * p), (0, r), (0, (many : Int)), (0, c)] h = some (.inl (some (0, (bxS a p r c many).1)), h2) ∧ cAll h2 a ∧ cRd h2 a p (138 + 36 * p) ∧ KR h h2 ∧ hB h2 136 (bxS a p r c many) := by
  have loop : ∀ (f k : Nat) (h1 : vH) (v7 v8 : vv), k + f = many → cAll h1 a → cRd h1 a p (138 + 36 * p) → KR h h1 → hB h1 136 (bxS a p r c k) → ∃ h2, vrun mX12_findBox 6 [(1, 3), (1, 138 + 36 * p), (0, r), (0, (many : Int)), (0, c), (0, (bxS a p r c k).1), (0, (k : Int)), v7, v8] [] h1 = some (.inl (some (0, (bxS a p r c many).1)), h2) ∧ cAll h2 a ∧ cRd h2 a p (138 + 36 * p) ∧ KR h h2 ∧ hB h2 136 (bxS a p r c many) := by
    intro f
    induction f with
    | zero =>
      intro k h1 v7 v8 hf c1 r1 K hb
      have ek : k = many := by omega
      subst ek
      exact ⟨h1, (rX12_findBox_6 (by omega) (by omega) r1.2.1.1).trans (if_pos (by omega)), c1, r1, K, hb⟩
    | succ f ih =>
      intro k h1 v7 v8 hf c1 r1 K hb
      obtain ⟨o1, o2⟩ := bxS_ok (c := c) g hp k (fun i u v => hr i u (by omega))
      have R := hr (r + k) (by omega) (by omega)
      have R0 : 0 ≤ r + (k : Int) := R.1
      have R1 := (isRw_all.mp R).2
      have al := mAll_in g.1 hp
      have q1 := C_lineOfRow g.1 hp r1 R
      obtain ⟨h2, q2, q3, q4⟩ := C_placeUp (x := c) g hp (by omega) r1 R
      have c2 := cAll_qM hp q3 c1 q4
      have K2 : KR h h2 := KR_tr K (kR_qC hp (qM_C q3))
      have hb2 : hB h2 136 (bxS a p r c k) := fun i u v => by
        rw [q3 2 136 i (by omega), q3 2 (136 + 1) i (by omega)]
        exact hb i u v
      have q5 := C_isInBox (l := mLn a p (r + k)) (x := upR a p (r + k) c) c2.1 hb2 ⟨o1.1, by omega⟩
      have e0 := (rX12_findBox_6 (x2 := r) (x3 := (many : Int)) (x4 := c) (x5 := (bxS a p r c k).1) (x6 := (k : Int)) (v7 := v7) (v8 := v8) (by omega) (by omega) r1.2.1.1).trans ((if_neg (by omega)).trans ((if_neg (by omega)).trans ((vret_v q1).trans ((rX12_findBox_27 (by omega) (by omega) r1.2.1.1).trans ((vret_v q2).trans ((rX12_findBox_39 c2.1).trans ((vret_v q5).trans (rX12_findBox_51 c2.1 (fun _ => o1.1) (fun _ => by omega) (by omega) (by omega)))))))))
      have en : (if b2i (inB (bxS a p r c k) (mLn a p (r + k)) (upR a p (r + k) c)) = 0 then (bxS a p r c k).1 + 1 else (bxS a p r c k).1) = (bxS a p r c (k + 1)).1 := by
        show _ = (nxB (bxS a p r c k) (mLn a p (r + k)) (upR a p (r + k) c)).1
        unfold nxB
        by_cases z : inB (bxS a p r c k) (mLn a p (r + k)) (upR a p (r + k) c)
        · rw [b2i_t z, if_neg (by decide), if_pos z]
        · rw [b2i_f z, if_pos rfl, if_neg z]
          rfl
      rw [en] at e0
      have fin : ∀ hx : vH, (if b2i (inB (bxS a p r c k) (mLn a p (r + k)) (upR a p (r + k) c)) = 0 then vup (vup h2 2 136 (bxS a p r c k).1 (mLn a p (r + k))) 2 137 (bxS a p r c k).1 (upR a p (r + k) c) else h2) = hx → cAll hx a ∧ cRd hx a p (138 + 36 * p) ∧ KR h hx ∧ hB hx 136 (bxS a p r c (k + 1)) := fun hx e => by
        show cAll hx a ∧ cRd hx a p (138 + 36 * p) ∧ KR h hx ∧ hB hx 136 (nxB (bxS a p r c k) (mLn a p (r + k)) (upR a p (r + k) c))
        unfold nxB
        by_cases z : inB (bxS a p r c k) (mLn a p (r + k)) (upR a p (r + k) c)
        · rw [b2i_t z, if_neg (by decide)] at e
          rw [if_pos z, ← e]
          exact ⟨c2, q4, K2, hb2⟩
        · rw [b2i_f z, if_pos rfl] at e
          rw [if_neg z, ← e]
          have A := cAll_bx (i := (bxS a p r c k).1) (v := mLn a p (r + k)) (w := upR a p (r + k) c) c2
          refine ⟨A, cRd_bx hp A q4, KR_tr K2 KR_bx, fun i u v => ?_⟩
          have v' : i < (bxS a p r c k).1 + 1 := v
          show vup (vup h2 2 136 (bxS a p r c k).1 (mLn a p (r + k))) 2 137 (bxS a p r c k).1 (upR a p (r + k) c) 2 136 i = (if i = (bxS a p r c k).1 then (mLn a p (r + k) : Int) else (bxS a p r c k).2.1 i) ∧ vup (vup h2 2 136 (bxS a p r c k).1 (mLn a p (r + k))) 2 137 (bxS a p r c k).1 (upR a p (r + k) c) 2 (136 + 1) i = (if i = (bxS a p r c k).1 then upR a p (r + k) c else (bxS a p r c k).2.2 i)
          rw [vup_r (by decide), vup_2, show (136 : Int) + 1 = 137 by decide, vup_2]
          by_cases y : i = (bxS a p r c k).1
          · rw [if_pos y, if_pos y, if_pos y, if_pos y]; exact ⟨rfl, rfl⟩
          · rw [if_neg y, if_neg y, if_neg y, if_neg y, vup_r (by decide)]
            exact hb2 i u (by omega)
      obtain ⟨f1, f2, f3, f4⟩ := fin _ rfl
      obtain ⟨h4, t1, t2⟩ := ih (k + 1) _ (0, mLn a p (r + k)) (0, upR a p (r + k) c) (by omega) f1 f2 f3 f4
      refine ⟨h4, ?_, t2⟩
      rw [show (((k + 1 : Nat)) : Int) = (k : Int) + 1 by omega] at t1
      exact e0.trans t1
  obtain ⟨h2, q1, q2⟩ := loop many 0 h (9, 0) (9, 0) (by omega) c0 r0 ⟨fun _ _ _ _ => rfl, rfl, rfl⟩ (fun i u v => absurd v (by show ¬ i < 0; omega))
  exact ⟨h2, (show _ = _ from rX12_findBox_0).trans q1, q2⟩
theorem C_boxInLine (s1 : shPL h) (hb : hB h 136 B) (b10 : 0 ≤ B.1 ∧ B.1 ≤ 10) : vcl mX12_boxPlacesInLine [(1, 3), (0, B.1), (0, l)] h = some (.inl (some (0, bC B.2.1 l B.1.toNat)), h) := by
  have loop : ∀ (f j : Nat), (j : Int) + f = B.1 → vrun mX12_boxPlacesInLine 5 [(1, 3), (0, B.1), (0, l), (0, bC B.2.1 l j), (0, (j : Int))] [] h = some (.inl (some (0, bC B.2.1 l B.1.toNat)), h) := by
    intro f
    induction f with
    | zero =>
      intro j hj
      rw [show B.1.toNat = j by omega]
      exact (rX12_boxPlacesInLine_5 s1 (by omega) (by omega) (by omega)).trans (if_pos (by omega))
    | succ f ih =>
      intro j hj
      have q := bC_b (L := B.2.1) (l := l) j
      have e0 := rX12_boxPlacesInLine_5 (x1 := B.1) (x2 := l) (x3 := bC B.2.1 l j) (x4 := (j : Int)) s1 (by omega) (by omega) (by omega)
      rw [(hb j (by omega) (by omega)).1, if_neg (by omega), if_neg (by omega)] at e0
      have e1 : (if B.2.1 (j : Int) = l then bC B.2.1 l j + 1 else bC B.2.1 l j) = bC B.2.1 l (j + 1) := by
        show _ = bC B.2.1 l j + (if B.2.1 (j : Int) = l then 1 else 0)
        split <;> omega
      rw [e1] at e0
      have ih' := ih (j + 1) (by omega)
      rw [show (((j + 1 : Nat)) : Int) = (j : Int) + 1 by omega] at ih'
      exact e0.trans ih'
  exact (show _ = _ from rX12_boxPlacesInLine_0).trans (loop B.1.toNat 0 (by omega))
theorem C_boxAhead (s1 : shPL h) (hb : hB h 136 B) (b10 : 0 ≤ B.1 ∧ B.1 ≤ 10) {k : Nat} (hk : (k : Int) < B.1) : vcl mX12_boxPlacesAhead [(1, 3), (0, (k : Int))] h = some (.inl (some (0, bA B k k)), h) := by
  have loop : ∀ (f j : Nat), j + f = k → vrun mX12_boxPlacesAhead 4 [(1, 3), (0, (k : Int)), (0, bA B k j), (0, (j : Int))] [] h = some (.inl (some (0, bA B k k)), h) := by
    intro f
    induction f with
    | zero =>
      intro j hj
      have e : j = k := by omega
      subst e
      exact (rX12_boxPlacesAhead_4 s1 (by omega) (by omega) (by omega) (by omega) (by omega)).trans (if_pos (by omega))
    | succ f ih =>
      intro j hj
      have q := bA_b (B := B) (i := (k : Int)) j
      have q2 := bC_b (L := B.2.1) (l := B.2.1 k) j
      have e0 := rX12_boxPlacesAhead_4 (x1 := (k : Int)) (x2 := bA B k j) (x3 := (j : Int)) s1 (by omega) (by omega) (by omega) (by omega) (by omega)
      obtain ⟨b1, b2⟩ := hb j (by omega) (by omega)
      obtain ⟨d1, d2⟩ := hb k (by omega) (by omega)
      rw [b1, show h 2 137 (j : Int) = B.2.2 j from b2, d1, show h 2 137 (k : Int) = B.2.2 k from d2, if_neg (by omega), if_neg (by omega)] at e0
      have e1 : (if B.2.1 (j : Int) = B.2.1 (k : Int) then (if B.2.2 (k : Int) ≤ B.2.2 (j : Int) then bA B k j else bA B k j + 1) else bA B k j) = bA B k (j + 1) := by
        show _ = bA B k j + (if B.2.1 (j : Int) = B.2.1 (k : Int) ∧ B.2.2 (j : Int) < B.2.2 (k : Int) then 1 else 0)
        by_cases z : B.2.1 (j : Int) = B.2.1 (k : Int)
        · rw [if_pos z]
          by_cases y : B.2.2 (k : Int) ≤ B.2.2 (j : Int)
          · rw [if_pos y, if_neg (by omega)]
            omega
          · rw [if_neg y, if_pos ⟨z, by omega⟩]
        · rw [if_neg z, if_neg (fun w => z w.1)]
          omega
      rw [e1] at e0
      have ih' := ih (j + 1) (by omega)
      rw [show (((j + 1 : Nat)) : Int) = (j : Int) + 1 by omega] at ih'
      exact e0.trans ih'
  exact (show _ = _ from rX12_boxPlacesAhead_0).trans (loop k 0 (by omega))
end TBC
