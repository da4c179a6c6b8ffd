/-! typeBox, the class's call -/
section TBQ
variable {h h1 h2 h3 a b : vH} {p P l x s n r m c i j v w : Int} {B : bxT}
theorem hB_eF (e : eF h h2) (hb : hB h 136 B) : hB h2 136 B := fun i u v => by
  rw [e 2 136 i (by omega), e 2 (136 + 1) i (by omega)]
  exact hb i u v
theorem C_boxRoom (g : iG a) (c0 : cAll h a) (hb : hB h 136 B) (b10 : 0 ≤ B.1 ∧ B.1 ≤ 10) (o : okB a B) {x6 : Int} : (room a B → vrun mX12_typeBox 78 [(1, 3), (0, p), (0, r), (0, m), (0, c), (0, s), (1, x6), (0, B.1), (0, 0)] [] h = vrun mX12_typeBox 146 [(1, 3), (0, p), (0, r), (0, m), (0, c), (0, s), (1, x6), (0, B.1), (0, 0)] [] h) ∧ (¬ room a B → vrun mX12_typeBox 78 [(1, 3), (0, p), (0, r), (0, m), (0, c), (0, s), (1, x6), (0, B.1), (0, 0)] [] h = some (.inr "java/lang/IllegalStateException", vexc h)) := by
  have gl := g.1.2.1
  have step : ∀ j : Int, 0 ≤ j → j < B.1 → (okR a B j → vrun mX12_typeBox 78 [(1, 3), (0, p), (0, r), (0, m), (0, c), (0, s), (1, x6), (0, B.1), (0, j)] [] h = vrun mX12_typeBox 78 [(1, 3), (0, p), (0, r), (0, m), (0, c), (0, s), (1, x6), (0, B.1), (0, j + 1)] [] h) ∧ (¬ okR a B j → vrun mX12_typeBox 78 [(1, 3), (0, p), (0, r), (0, m), (0, c), (0, s), (1, x6), (0, B.1), (0, j)] [] h = some (.inr "java/lang/IllegalStateException", vexc h)) := by
    intro j u v
    have P := o.2.1 j u v
    have P1 : 0 ≤ B.2.1 j ∧ B.2.1 j < a 1504 282 0 := P.1
    have l80 := g.1.2.2.1 (B.2.1 j) P1.1 (by omega)
    have ln := c0.2.1.2.2.2.2 (B.2.1 j) P1.1 P1.2
    have b1 := (hb j u v).1
    have e0 := rX12_typeBox_78 (x1 := p) (x2 := r) (x3 := m) (x4 := c) (x5 := s) (x6 := x6) (x7 := B.1) (x8 := j) c0.1 (fun _ _ => u) c0.2.1.1 (fun _ _ => by rw [b1, C_at c0.2.1 P1]; exact ln.1.1)
    rw [b1, C_at c0.2.1 P1, show h 601 (h 2 5 (B.2.1 j)) 0 = a 2 284 (B.2.1 j) from ln.1.2.1, if_neg (by omega), if_neg (by omega)] at e0
    have q := bC_b (L := B.2.1) (l := B.2.1 j) B.1.toNat
    have e1 := e0.trans ((vret_v (C_boxInLine (l := B.2.1 j) c0.1 hb b10)).trans (rX12_typeBox_123 (by omega) (by omega) c0.1))
    constructor
    · intro z
      unfold okR at z
      rw [if_pos (by omega)] at e1
      exact e1.trans ((vret_n (C_chkState.1 (by decide))).trans (rX12_typeBox_137 (by omega) (by omega)))
    · intro z
      unfold okR at z
      rw [if_neg (by omega)] at e1
      exact e1.trans (vret_x (C_chkState.2 rfl) rfl)
  have loop : ∀ (f : Nat) (j : Int), j + f = B.1 → 0 ≤ j → ((∀ i, j ≤ i → i < B.1 → okR a B i) → vrun mX12_typeBox 78 [(1, 3), (0, p), (0, r), (0, m), (0, c), (0, s), (1, x6), (0, B.1), (0, j)] [] h = vrun mX12_typeBox 146 [(1, 3), (0, p), (0, r), (0, m), (0, c), (0, s), (1, x6), (0, B.1), (0, 0)] [] h) ∧ ((¬ ∀ i, j ≤ i → i < B.1 → okR a B i) → vrun mX12_typeBox 78 [(1, 3), (0, p), (0, r), (0, m), (0, c), (0, s), (1, x6), (0, B.1), (0, j)] [] h = some (.inr "java/lang/IllegalStateException", vexc h)) := by
    intro f
    induction f with
    | zero =>
      intro j hj h0
      refine ⟨fun _ => ?_, fun z => absurd (fun i u v => absurd v (by omega)) z⟩
      exact (rX12_typeBox_78 c0.1 (fun w => absurd (by omega) w) c0.2.1.1 (fun w => absurd (by omega) w)).trans (if_pos (by omega))
    | succ f ih =>
      intro j hj h0
      obtain ⟨s1, s2⟩ := step j h0 (by omega)
      obtain ⟨i1, i2⟩ := ih (j + 1) (by omega) (by omega)
      refine ⟨fun z => (s1 (z j (Int.le_refl _) (by omega))).trans (i1 (fun i u v => z i (by omega) v)), fun z => ?_⟩
      by_cases y : okR a B j
      · refine (s1 y).trans (i2 (fun w => z (fun i u v => ?_)))
        by_cases t : i = j
        · rw [t]; exact y
        · exact w i (by omega) v
      · exact s2 y
  obtain ⟨l1, l2⟩ := loop B.1.toNat 0 (by omega) (Int.le_refl _)
  exact ⟨fun z => l1 z, fun z => l2 z⟩
theorem C_typesBox (x0 : iA a) (V : iV n a) (hn : 0 ≤ n ∧ n ≤ 9000) (hs : sgOk s) (c0 : cAll h a) (hb : hB h 136 B) (b10 : 0 ≤ B.1 ∧ B.1 ≤ 10) (o : okB a B) (rm : room a B) {x6 : Int} : ∃ h2, vrun mX12_typeBox 146 [(1, 3), (0, p), (0, r), (0, m), (0, c), (0, s), (1, x6), (0, B.1), (0, 0)] [] h = some (.inl (some (0, B.1)), h2) ∧ cAll h2 (tXs a B s B.1.toNat) ∧ KR h h2 := by
  have loop : ∀ (f k : Nat) (h1 : vH), (k : Int) + f = B.1 → cAll h1 (tXs a B s k) → hB h1 136 B → KR h h1 → ∃ h2, vrun mX12_typeBox 146 [(1, 3), (0, p), (0, r), (0, m), (0, c), (0, s), (1, x6), (0, B.1), (0, (k : Int))] [] h1 = some (.inl (some (0, B.1)), h2) ∧ cAll h2 (tXs a B s B.1.toNat) ∧ KR h h2 := by
    intro f
    induction f with
    | zero =>
      intro k h1 hf c1 hb1 K
      have ek : B.1.toNat = k := by omega
      rw [ek]
      exact ⟨h1, (rX12_typeBox_146 c1.1 (by omega)).trans (if_pos (by omega)), c1, K⟩
    | succ f ih =>
      intro k h1 hf c1 hb1 K
      obtain ⟨x1, V1, e1, e2, -, -⟩ := xs_all x0 V hn.1 hs o rm k (by omega)
      obtain ⟨y1, y2, y3⟩ := xs_may x0 V hn.1 hs o rm (k := k) (by omega)
      have gl := x1.1.1.2.1
      have l80 := x1.1.1.2.2.1 (B.2.1 k) y1.1 (by omega)
      have q1 := C_boxAhead c1.1 hb1 b10 (k := k) (by omega)
      have e0 := (rX12_typeBox_146 (x1 := p) (x2 := r) (x3 := m) (x4 := c) (x5 := s) (x6 := x6) (x7 := B.1) (x8 := (k : Int)) c1.1 (by omega)).trans ((if_neg (by omega)).trans (if_neg (by omega)))
      obtain ⟨d1, d2⟩ := hb1 k (by omega) (by omega)
      rw [d1, show h1 2 137 (k : Int) = B.2.2 k from d2] at e0
      have q := bA_b (B := B) (i := (k : Int)) k
      have q2 := bC_b (L := B.2.1) (l := B.2.1 k) k
      have P2 : 0 ≤ B.2.2 k ∧ B.2.2 k ≤ a 2 284 (B.2.1 k) := (o.2.1 k (by omega) (by omega)).2
      obtain ⟨h3, u1, u2, u3, u4, u5⟩ := C_putIn (s := s) (cW_of c1) (iG_n6 x1.1) (iV_bd x1.1 V1 hn) y1 y2 y3 (fun i u v => (x1.1.1.2.2.1 i u v).2)
      have A : cAll h3 (tXs a B s (k + 1)) := cAll_fgd u2 c1 (cm_o (by decide)) u5 (fun q i u v s1 t1 n1 => lnE_cm x1.1 ⟨u, v⟩ y1 y2 y3 s1 t1 n1)
      obtain ⟨h4, t1, t2⟩ := ih (k + 1) h3 (by omega) A (hB_eF u3 hb1) (KR_tr K (eF_kR u3))
      refine ⟨h4, ?_, t2⟩
      rw [show (((k + 1 : Nat)) : Int) = (k : Int) + 1 by omega] at t1
      exact e0.trans ((vret_v q1).trans ((rX12_typeBox_181 (by omega) (by omega) c1.1).trans ((vret_n u1).trans ((rX12_typeBox_187 (by omega) (by omega)).trans t1))))
  exact loop B.1.toNat 0 h (by omega) c0 hb ⟨fun _ _ _ _ => rfl, rfl, rfl⟩
theorem Cq_typeBox (c1 : cAll h a) (x0 : iA a) (V : iV n a) (hn : 0 ≤ n ∧ n ≤ 9000) : cOut h (tTb a p r m c s) (kTb a p r m c s) (vTb a p r m c) e3 (vcl mX12_typeBox [(1, 3), (0, p), (0, r), (0, m), (0, c), (0, s)] h) := by
  have g := x0.1
  have gl := g.1.2.1
  have c0 := cAll_th (k := 0) c1
  have g0 : iG (th 0 a) := iG_tk g
  have yT := (eqA_sT (a := a) (b := th 0 a) fine_F)
  by_cases z1 : 0 ≤ p ∧ p < 4
  · obtain ⟨h1, d1, d2, d3, d4⟩ := C_laid c0 g0 z1
    have K1 : KR h h1 := kR_qC z1 d2
    have bad : ∀ {X : Option (vR × vH)} {s' : String} {hx : vH} (k : Int), ¬ k = 0 → kTb a p r m c s = k → s' = e3 k → cAll hx (th 0 a) → KR h hx → X = some (.inr s', vexc hx) → cOut h (tTb a p r m c s) (kTb a p r m c s) (vTb a p r m c) e3 X := by
      intro X s' hx k hk ek es cx Kx eX
      unfold tTb
      rw [ek, if_neg hk]
      exact cO_eq eX (cO_x (cAll_tk cx) Kx hk es)
    have al := mAll_in g0.1 z1
    have ar := (cRd_n d4).1
    have e1 := (rX12_typeBox_0 (x1 := p) (x2 := r) (x3 := m) (x4 := c) (x5 := s) c0.1).trans ((vret_v d1).trans (rX12_typeBox_5 d3.1))
    by_cases z2 : 1 ≤ m ∧ m ≤ 10
    · have e2 := e1.trans ((vret_n (C_chkRange.1 z2)).trans (rX12_typeBox_15 d3.1))
      by_cases z3 : isRw a p r
      · have z3' : isRw (th 0 a) p r := (isRw_eq yT).mpr z3
        have r7 := isRw_all.mp z3'
        have e2' := e2.trans ((vret_n ((C_chkRow d4).1 z3')).trans (rX12_typeBox_22 d4.2.1.1 (by rw [show h1 713 (138 + 36 * p) 0 = mAll (th 0 a) p from ar]; omega) (by rw [show h1 713 (138 + 36 * p) 0 = mAll (th 0 a) p from ar]; omega) (by omega) (by omega) (by omega) d3.1))
        rw [show h1 713 (138 + 36 * p) 0 = mAll (th 0 a) p from ar] at e2'
        by_cases z4 : isRw a p (r + m - 1)
        · have z4' : isRw (th 0 a) p (r + m - 1) := (isRw_eq yT).mpr z4
          have r8 := isRw_all.mp z4'
          rw [if_pos (by omega)] at e2'
          have e4 := e2'.trans ((vret_n ((C_chkRow d4).1 z4')).trans (rX12_typeBox_48 d3.1))
          by_cases z5 : 0 ≤ c ∧ c ≤ 39
          · have e5 := e4.trans ((vret_n (C_chkRange.1 z5)).trans (rX12_typeBox_57 d3.1))
            by_cases z6 : sgOk s
            · have e6 := e5.trans ((vret_n (C_chkSign.1 z6)).trans (rX12_typeBox_63 d3.1))
              have em : ((m.toNat : Nat) : Int) = m := by omega
              have RW : ∀ i, r ≤ i → i < r + (m.toNat : Nat) → isRw (th 0 a) p i := fun i u v => rows_in z3' z4' i u (by omega)
              obtain ⟨h2, q1, q2, q3, q4, q5⟩ := C_findBox (c := c) g0 z1 (many := m.toNat) (by omega) d3 d4 RW
              rw [em] at q1
              rw [bxS_eq yT.1] at q1 q5
              obtain ⟨o1, o2⟩ := bxS_ok (c := c) g z1 m.toNat (fun i u v => rows_in z3 z4 i u (by omega))
              have oT : okB (th 0 a) (bxS a p r c m.toNat) := okB_eq (a := a) (fun _ => rfl) rfl o1
              have rT : room (th 0 a) (bxS a p r c m.toNat) = room a (bxS a p r c m.toNat) := room_eq (fun _ => rfl)
              have b10 : 0 ≤ (bxS a p r c m.toNat).1 ∧ (bxS a p r c m.toNat).1 ≤ 10 := ⟨o1.1, by omega⟩
              have e7 := e6.trans ((vret_v q1).trans rX12_typeBox_73)
              have Kq : KR h h2 := KR_tr K1 q4
              obtain ⟨rm1, rm2⟩ := C_boxRoom (p := p) (r := r) (m := m) (c := c) (s := s) (x6 := 138 + 36 * p) g0 q2 q5 b10 oT
              by_cases z7 : room a (bxS a p r c m.toNat)
              · have k0 : kTb a p r m c s = 0 := kTb_0.mpr ⟨z1, z2, ⟨z3, z4⟩, ⟨z5, z6⟩, z7⟩
                unfold tTb
                rw [k0, if_pos rfl]
                obtain ⟨h3, t1, t2, t3⟩ := C_typesBox (p := p) (r := r) (m := m) (c := c) (x6 := 138 + 36 * p) (a := th 0 a) (n := n) (iA_tk x0) V hn z6 q2 q5 b10 oT (by rw [rT]; exact z7)
                exact cO_eq (e7.trans ((rm1 (by rw [rT]; exact z7)).trans t1)) (cO_v t2 (KR_tr Kq t3))
              · exact bad 3 (by decide) (by unfold kTb; rw [if_pos z1, if_pos z2, if_pos ⟨z3, z4⟩, if_pos ⟨z5, z6⟩, if_neg z7]) rfl q2 Kq (e7.trans (rm2 (by rw [rT]; exact z7)))
            · exact bad 2 (by decide) (by unfold kTb; rw [if_pos z1, if_pos z2, if_pos ⟨z3, z4⟩, if_neg (fun w => z6 w.2)]) rfl d3 K1 (e5.trans (vret_x (C_chkSign.2 z6) rfl))
          · exact bad 2 (by decide) (by unfold kTb; rw [if_pos z1, if_pos z2, if_pos ⟨z3, z4⟩, if_neg (fun w => z5 w.1)]) rfl d3 K1 (e4.trans (vret_x (C_chkRange.2 z5) rfl))
        · have z4' : ¬ isRw (th 0 a) p (r + m - 1) := fun w => z4 ((isRw_eq yT).mp w)
          have n4 : ¬ (m ≤ mAll (th 0 a) p - r) := fun w => z4' (isRw_all.mpr ⟨by omega, by omega⟩)
          rw [if_neg n4] at e2'
          have nm : ¬ isRw (th 0 a) p (-1) := fun w => absurd w.1 (by decide)
          exact bad 1 (by decide) (by unfold kTb; rw [if_pos z1, if_pos z2, if_neg (fun w => z4 w.2)]) rfl d3 K1 (e2'.trans (vret_x ((C_chkRow d4).2 nm) rfl))
      · have z3' : ¬ isRw (th 0 a) p r := fun w => z3 ((isRw_eq yT).mp w)
        exact bad 1 (by decide) (by unfold kTb; rw [if_pos z1, if_pos z2, if_neg (fun w => z3 w.1)]) rfl d3 K1 (e2.trans (vret_x ((C_chkRow d4).2 z3') rfl))
    · exact bad 2 (by decide) (by unfold kTb; rw [if_pos z1, if_neg z2]) rfl d3 K1 (e1.trans (vret_x (C_chkRange.2 z2) rfl))
  · have k1 : kTb a p r m c s = 1 := by unfold kTb; rw [if_neg z1]
    unfold tTb
    rw [k1, if_neg (by decide)]
    exact cO_eq ((rX12_typeBox_0 c1.1).trans (vret_x (C_laidX c1 z1) rfl)) (cO_x (cAll_th c1) cR_rf (by decide) rfl)
end TBQ
