/-! typeBox: the reference -/
section TBX
variable {h h1 h2 a b : vH} {p P l x s n r m c i j : Int} {B : bxT}
theorem bxS_eq (y : pR a b) : ∀ (k : Nat), bxS b p r c k = bxS a p r c k
  | 0 => rfl
  | k + 1 => by
    unfold bxS
    rw [bxS_eq y k, mLn_eq y, upR_eq y]
theorem room_eq (e : ∀ l, b 2 284 l = a 2 284 l) : room b B = room a B := by
  unfold room okR
  apply propext
  constructor
  · intro w i u v
    have := w i u v
    rw [e] at this
    exact this
  · intro w i u v
    rw [e]
    exact w i u v
theorem okB_eq (e : ∀ l, b 2 284 l = a 2 284 l) (el : b 1504 282 0 = a 1504 282 0) (o : okB a B) : okB b B := ⟨o.1, fun i u v => ⟨⟨(o.2.1 i u v).1.1, by rw [el]; exact (o.2.1 i u v).1.2⟩, (o.2.1 i u v).2.1, by rw [e]; exact (o.2.1 i u v).2.2⟩, o.2.2⟩
noncomputable def kTb (a : vH) (p r m c s : Int) : Int := if 0 ≤ p ∧ p < 4 then (if 1 ≤ m ∧ m ≤ 10 then @ite _ (isRw a p r ∧ isRw a p (r + m - 1)) (Classical.propDecidable _) (@ite _ ((0 ≤ c ∧ c ≤ 39) ∧ sgOk s) (Classical.propDecidable _) (@ite _ (room a (bxS a p r c m.toNat)) (Classical.propDecidable _) 0 3) 2) 1 else 2) else 1
noncomputable def vTb (a : vH) (p r m c : Int) : Int := (bxS a p r c m.toNat).1
noncomputable def tTb (a : vH) (p r m c s : Int) : vH := if kTb a p r m c s = 0 then tXs (th 0 a) (bxS a p r c m.toNat) s (bxS a p r c m.toNat).1.toNat else th (kTb a p r m c s) a
theorem kTb_0 : kTb a p r m c s = 0 ↔ (0 ≤ p ∧ p < 4) ∧ (1 ≤ m ∧ m ≤ 10) ∧ (isRw a p r ∧ isRw a p (r + m - 1)) ∧ ((0 ≤ c ∧ c ≤ 39) ∧ sgOk s) ∧ room a (bxS a p r c m.toNat) := by
  unfold kTb
  by_cases z1 : 0 ≤ p ∧ p < 4
  · by_cases z2 : 1 ≤ m ∧ m ≤ 10
    · by_cases z3 : isRw a p r ∧ isRw a p (r + m - 1)
      · by_cases z4 : (0 ≤ c ∧ c ≤ 39) ∧ sgOk s
        · by_cases z5 : room a (bxS a p r c m.toNat)
          · rw [if_pos z1, if_pos z2, if_pos z3, if_pos z4, if_pos z5]; exact ⟨fun _ => ⟨z1, z2, z3, z4, z5⟩, fun _ => rfl⟩
          · rw [if_pos z1, if_pos z2, if_pos z3, if_pos z4, if_neg z5]; exact ⟨fun w => absurd w (by decide), fun w => absurd w.2.2.2.2 z5⟩
        · rw [if_pos z1, if_pos z2, if_pos z3, if_neg z4]; exact ⟨fun w => absurd w (by decide), fun w => absurd w.2.2.2.1 z4⟩
      · rw [if_pos z1, if_pos z2, if_neg z3]; exact ⟨fun w => absurd w (by decide), fun w => absurd w.2.2.1 z3⟩
    · rw [if_pos z1, if_neg z2]; exact ⟨fun w => absurd w (by decide), fun w => absurd w.2.1 z2⟩
  · rw [if_neg z1]; exact ⟨fun w => absurd w (by decide), fun w => absurd w.1 z1⟩
theorem rows_in (z : isRw a p r) (z2 : isRw a p (r + m - 1)) (i : Int) (u : r ≤ i) (v : i < r + m) : isRw a p i := ⟨by have := z.1; omega, by have := z2.2; omega⟩
theorem tb_in (x0 : iA a) (V : iV n a) (hn : 0 ≤ n) (k : kTb a p r m c s = 0) : okB (th 0 a) (bxS a p r c m.toNat) ∧ room (th 0 a) (bxS a p r c m.toNat) ∧ (0 ≤ (bxS a p r c m.toNat).1 ∧ (bxS a p r c m.toNat).1 ≤ 10) := by
  obtain ⟨z1, z2, z3, z4, z5⟩ := kTb_0.mp k
  have em : ((m.toNat : Nat) : Int) = m := by omega
  obtain ⟨o1, o2⟩ := bxS_ok (c := c) x0.1 z1 m.toNat (fun i u v => rows_in z3.1 z3.2 i u (by omega))
  exact ⟨okB_eq (a := a) (fun _ => rfl) rfl o1, by rw [room_eq (a := a) (b := th 0 a) (fun _ => rfl)]; exact z5, o1.1, by omega⟩
theorem iX_typeBox (x0 : iA a) (V : iV n a) (hn : 0 ≤ n) : iA (tTb a p r m c s) ∧ iV n (tTb a p r m c s) := by
  unfold tTb
  by_cases k : kTb a p r m c s = 0
  · rw [if_pos k]
    obtain ⟨o, rm, b10⟩ := tb_in x0 V hn k
    obtain ⟨x1, V1, -⟩ := xs_all (iA_tk (k := 0) x0) (a := th 0 a) (n := n) V hn (kTb_0.mp k).2.2.2.1.2 o rm _ (show (((bxS a p r c m.toNat).1.toNat : Nat) : Int) ≤ _ by omega)
    exact ⟨x1, V1⟩
  · rw [if_neg k]
    exact ⟨iA_tk x0, V⟩
theorem rZ_typeBox (x0 : iA a) (V : iV n a) (hn : 0 ≤ n) : rZ a (tTb a p r m c s) := by
  unfold tTb
  by_cases k : kTb a p r m c s = 0
  · rw [if_pos k]
    obtain ⟨o, rm, b10⟩ := tb_in x0 V hn k
    obtain ⟨-, -, -, -, -, x1⟩ := xs_all (iA_tk (k := 0) x0) (a := th 0 a) (n := n) V hn (kTb_0.mp k).2.2.2.1.2 o rm _ (show (((bxS a p r c m.toNat).1.toNat : Nat) : Int) ≤ _ by omega)
    exact rZ_tr rZ_th x1
  · rw [if_neg k]
    exact rZ_th
theorem mF_th {k : Int} (f : mF sA2 sT2 a b) : mF sA2 sT2 (th k a) (th k b) := mF_vv f
theorem Mq_typeBox (x0 : iA h) (V : iV n h) (hn : 0 ≤ n ∧ n ≤ 9000) : mOut (tTb h p r m c s) (kTb h p r m c s) (vTb h p r m c) (vcl mX13_typeBox [(1, 282), (0, p), (0, r), (0, m), (0, c), (0, s)] h) := by
  have g := x0.1
  have e0 := rX13_typeBox_0 (x1 := p) (x2 := r) (x3 := m) (x4 := c) (x5 := s) (h := h) g.1.1
  have bad : ∀ {X : Option (vR × vH)} {x6 x7 x8 x9 : Int} {h1 : vH} (k : Int), ¬ k = 0 → kTb h p r m c s = k → mF sA2 sT2 h h1 → X = vret vrun mX13_typeBox 148 [(1, 282), (0, p), (0, r), (0, m), (0, c), (0, s), (0, x6), (0, x7), (0, x8), (0, x9)] [] (vcl mX13_isFine [(1, 282), (0, k)] h1) → mOut (tTb h p r m c s) (kTb h p r m c s) (vTb h p r m c) X := by
    intro X x6 x7 x8 x9 h1 k hk ek F eX
    unfold tTb
    rw [ek, if_neg hk]
    have g1 := iG_m2 F g
    refine ⟨th k h1, 0, eX.trans ((fine0 g1.1.1 hk).trans ((rX13_typeBox_151 (iG_th g1).1.1).trans (if_pos rfl))), mF_th F, vup_s, fun w => absurd w hk⟩
  by_cases z1 : 0 ≤ p ∧ p < 4
  · have A : ¬ (p < 0) ∧ ¬ (3 < p) := by omega
    by_cases z2 : 1 ≤ m ∧ m ≤ 10
    · have M : ¬ (m < 1) ∧ ¬ (10 < m) := by omega
      simp only [if_pos A, if_pos M] at e0
      obtain ⟨h1, a1, a2⟩ := M_isRow g.1 (p := p) (r := r)
      have F1 : mF sA2 sT2 h h1 := sT2_of (sT_of a2)
      have g1 := iG_m2 F1 g
      have al := mAll_in g.1 z1
      have up : ¬ (b2i ((0 ≤ p ∧ p < 4) ∧ isRw h p r) = 0) → 0 ≤ r ∧ r < mAll h p := fun w => isRw_all.mp (Classical.byContradiction (fun n => w (b2i_f (fun q => n q.2))))
      have e1 := e0.trans ((vret_v a1).trans (rX13_typeBox_31 g1.1.1 (fun w => by have := up w; omega) (fun w => by have := up w; omega) (fun w => by have := up w; omega)))
      by_cases z3 : isRw h p r
      · rw [b2i_t ⟨z1, z3⟩, if_neg (by decide)] at e1
        obtain ⟨h2, b1, b2⟩ := M_isRow g1.1 (p := p) (r := r + m - 1)
        rw [b2i_c (show ((0 ≤ p ∧ p < 4) ∧ isRw h1 p (r + m - 1)) ↔ isRw h p (r + m - 1) from ⟨fun w => (isRw_eq (m2_A F1)).mp w.2, fun w => ⟨z1, (isRw_eq (m2_A F1)).mpr w⟩⟩)] at b1
        have F2 : mF sA2 sT2 h h2 := mF_tr F1 (sT2_of (sT_of b2))
        have g2 := iG_m2 F2 g
        have e2 := e1.trans ((vret_v b1).trans (rX13_typeBox_44 g2.1.1))
        by_cases z4 : isRw h p (r + m - 1)
        · rw [b2i_t z4] at e2
          have T1 : ¬ ((1 : Int) = 0) := by decide
          by_cases z5 : (0 ≤ c ∧ c ≤ 39) ∧ sgOk s
          · have S : ¬ ((1 : Int) = 0) ∧ (¬ (c < 0) ∧ ¬ (39 < c)) ∧ ¬ (fX13_isSign h2 s = 0) := ⟨T1, by omega, sgOk_x.mpr z5.2⟩
            simp only [if_pos S] at e2
            have em : ((m.toNat : Nat) : Int) = m := by omega
            have R2 : ∀ i, r ≤ i → i < r + (m.toNat : Nat) → isRw h2 p i := fun i u v => (isRw_eq (m2_A F2)).mpr (rows_in z3 z4 i u (by omega))
            have r7 := (isRw_all.mp z3).2
            obtain ⟨h3, d1, d2, d3, d4⟩ := M_findsBox (c := c) g2 z1 (many := m.toNat) (r := r) (by omega) (by omega) R2
            rw [em] at d1
            rw [bxS_eq (m2_A F2).1] at d3 d4
            have F3 : mF sA2 sT2 h h3 := mF_tr F2 d2
            have g3 := iG_m2 F3 g
            obtain ⟨o1, o2⟩ := bxS_ok (c := c) g z1 m.toNat (fun i u v => rows_in z3 z4 i u (by omega))
            have gl := g.1.2.1
            have le3 : ∀ l, h3 2 284 l = h 2 284 l := fun l => m2_r F3 (by decide)
            obtain ⟨v, q1, q2⟩ := M_boxRoom g3.1.1 d3 d4 ⟨o1.1, by omega⟩ (fun i u v => by
              have P := o1.2.1 i u v
              have P1 : 0 ≤ (bxS h p r c m.toNat).2.1 i ∧ (bxS h p r c m.toNat).2.1 i < h 1504 282 0 := P.1
              rw [le3]
              exact ⟨⟨P1.1, by omega⟩, g.1.2.2.1 _ P1.1 (by omega)⟩)
            rw [room_eq le3] at q2
            have e3 := e2.trans ((vret_n d1).trans (rX13_typeBox_99 g3.1.1))
            simp only [if_neg T1] at e3
            have e4 := e3.trans ((vret_v q1).trans (rX13_typeBox_140 g3.1.1))
            by_cases z6 : room h (bxS h p r c m.toNat)
            · rw [if_neg (fun w => q2.mp w z6)] at e4
              have k0 : kTb h p r m c s = 0 := kTb_0.mpr ⟨z1, z2, ⟨z3, z4⟩, z5, z6⟩
              obtain ⟨oo, rm, b10⟩ := tb_in x0 V hn.1 k0
              unfold tTb
              rw [k0, if_pos rfl]
              have gt : iG (th 0 h3) := iG_tk g3
              obtain ⟨h4, t1, t2, t3, t4⟩ := M_typesBox (a := th 0 h) (h := th 0 h3) (iA_tk x0) (n := n) V hn z5.2 oo rm b10.2 (mF_th F3) ((vup_k (by decide)).trans d3) (fun i u v => d4 i u v)
              have X1 := xs_all (iA_tk (k := 0) x0) (a := th 0 h) (n := n) V hn.1 z5.2 oo rm (bxS h p r c m.toNat).1.toNat (by omega)
              have g4 := iG_m2 t2 X1.1.1
              have e5 := e4.trans ((fine1 g3.1.1).trans ((rX13_typeBox_151 gt.1.1).trans ((if_neg (by decide)).trans ((vret_n t1).trans (rX13_typeBox_162 g4.1.1)))))
              rw [show h4 1562 282 0 = (bxS h p r c m.toNat).1 from t3] at e5
              refine ⟨h4, _, e5, t2, ?_, fun _ => rfl⟩
              rw [t4]
              exact vup_s
            · rw [if_pos (q2.mpr z6)] at e4
              exact bad 3 (by decide) (by unfold kTb; rw [if_pos z1, if_pos z2, if_pos ⟨z3, z4⟩, if_pos z5, if_neg z6]) F3 e4
          · have S : ¬ (¬ ((1 : Int) = 0) ∧ (¬ (c < 0) ∧ ¬ (39 < c)) ∧ ¬ (fX13_isSign h2 s = 0)) := fun w => z5 ⟨by omega, sgOk_x.mp w.2.2⟩
            simp only [if_neg S, if_neg T1, if_pos T1] at e2
            exact bad 2 (by decide) (by unfold kTb; rw [if_pos z1, if_pos z2, if_pos ⟨z3, z4⟩, if_neg z5]) F2 e2
        · rw [b2i_f z4] at e2
          have T0 : ¬ ¬ ((0 : Int) = 0) := fun w => w rfl
          have T1 : ¬ ((1 : Int) = 0) := by decide
          have S : ¬ (¬ ((0 : Int) = 0) ∧ (¬ (c < 0) ∧ ¬ (39 < c)) ∧ ¬ (fX13_isSign h2 s = 0)) := fun w => w.1 rfl
          simp only [if_neg S, if_neg T0, if_neg T1] at e2
          exact bad 1 (by decide) (by unfold kTb; rw [if_pos z1, if_pos z2, if_neg (fun w => z4 w.2)]) F2 e2
      · rw [b2i_f (fun w => z3 w.2), if_pos rfl] at e1
        have T1 : ¬ ((1 : Int) = 0) := by decide
        simp only [if_neg T1] at e1
        exact bad 1 (by decide) (by unfold kTb; rw [if_pos z1, if_pos z2, if_neg (fun w => z3 w.1)]) F1 e1
    · have M : ¬ (¬ (m < 1) ∧ ¬ (10 < m)) := by omega
      simp only [if_pos A, if_neg M] at e0
      exact bad 2 (by decide) (by unfold kTb; rw [if_pos z1, if_neg z2]) mF_rf e0
  · have A : ¬ (¬ (p < 0) ∧ ¬ (3 < p)) := by omega
    simp only [if_neg A] at e0
    exact bad 1 (by decide) (by unfold kTb; rw [if_neg z1]) mF_rf e0
end TBX
