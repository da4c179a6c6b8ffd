/-! draw: the reference tells its rows -/
noncomputable def dN (a : vH) (p t k : Int) : Int := if t + k < mAll a p then vCt a p (t + k) else -1
noncomputable def dM (a : vH) (p t k : Int) : Int := if t + k < mAll a p then mkV a p (t + k) else 0
/-- the rows up to K are told -/
def told (h a : vH) (p t K : Int) : Prop := ∀ k, 0 ≤ k → k < K → h 2 332 k = dN a p t k ∧ h 2 333 k = dM a p t k ∧ ∀ c, 0 ≤ c → c < dN a p t k → h 2 331 (132 * k + c) = pkV a p (t + k) c
theorem shM_333 {h : vH} (s : shModel h) : h 0 333 0 = 1 ∧ h 1 333 0 = 24 := ⟨s.2.2.2.2.2.2.2.2.2.2.2.2.2.2.2.2.2.2.2.2.2.2.2.2.2.2.2.2.2.2.2.2.2.2.2.2.2.2.2.2.2.2.2.2.2.2.2.2.2.2.2.2.2.2.2.2.2.2.2.2.2.2.2.2.2.2.2.2.2.2.2.2.2.2.2.2.2.2.2.2.2.2.2.2.2.2.2.2.2.2.2.2.2.2.2.2.2.2.2.2.2.2.2.2.2.2.2.2.2.2.2.2.2.2.2.2.2.2.2.2.2.2.2.2.2.2.2.2.2.2.2.2.2.2.2.2.2.2.2.2.2.2.2.2.2.2.2.2.2.2.2.2.1, s.2.2.2.2.2.2.2.2.2.2.2.2.2.2.2.2.2.2.2.2.2.2.2.2.2.2.2.2.2.2.2.2.2.2.2.2.2.2.2.2.2.2.2.2.2.2.2.2.2.2.2.2.2.2.2.2.2.2.2.2.2.2.2.2.2.2.2.2.2.2.2.2.2.2.2.2.2.2.2.2.2.2.2.2.2.2.2.2.2.2.2.2.2.2.2.2.2.2.2.2.2.2.2.2.2.2.2.2.2.2.2.2.2.2.2.2.2.2.2.2.2.2.2.2.2.2.2.2.2.2.2.2.2.2.2.2.2.2.2.2.2.2.2.2.2.2.2.2.2.2.2.2.2.1⟩
section DRW
variable {h h1 h2 a b : vH} {p t l x r k c : Int}
theorem pkV_eq (y : pR a b) : pkV b p r c = pkV a p r c := by
  unfold pkV
  rw [vCe_eq y, vCe_eq y, vCe_eq y, vCe_eq y, vCe_eq y]
theorem dN_in (g : iG a) (hp : 0 ≤ p ∧ p < 4) (ht : 0 ≤ t) (hk : 0 ≤ k) : -1 ≤ dN a p t k ∧ dN a p t k ≤ 131 := by
  unfold dN
  split
  · rename_i z
    have := vCt_in g hp (r := t + k) (isRw_all.mpr ⟨by omega, z⟩)
    omega
  · omega
/-- told in another heap -/
theorem told_of {K : Int} (e : ∀ r i, r = 331 ∨ r = 332 ∨ r = 333 → h2 2 r i = h1 2 r i) (x : told h1 a p t K) : told h2 a p t K := fun k u v => by
  obtain ⟨x1, x2, x3⟩ := x k u v
  exact ⟨(e _ _ (by decide)).trans x1, (e _ _ (by decide)).trans x2, fun c s w => (e _ _ (by decide)).trans (x3 c s w)⟩
/-- one row -/
theorem M_tellRow (g : iG h) (i : iH h) (V : iVs h) (hp : 0 ≤ p ∧ p < 4) (ht : 0 ≤ t ∧ t < 7861) (hk : 0 ≤ k ∧ k < 24) (z : t + k < mAll h p) (F : mF sA2 sT2 h h1) (T : told h1 h p t k) {x3 : Int} {v5 v6 v7 v8 : vv} : ∃ h2 w5 w6 w7 w8, vret vrun mX13_tellsRows 60 [(1, 282), (0, p), (0, t), (0, x3), (0, k), v5, v6, v7, v8] [] (vcl mX13_laysRow [(1, 282), (0, p), (0, t + k)] (vup (vup h1 2 332 k (-1)) 2 333 k 0)) = vrun mX13_tellsRows 19 [(1, 282), (0, p), (0, t), (0, x3), (0, k + 1), w5, w6, w7, w8] [] h2 ∧ mF sA2 sT2 h h2 ∧ told h2 h p t (k + 1) ∧ h2 1500 282 0 = h1 1500 282 0 := by
  have al := mAll_in g.1 hp
  have R : isRw h p (t + k) := isRw_all.mpr ⟨by omega, z⟩
  have F0 : mF sA2 sT2 h (vup (vup h1 2 332 k (-1)) 2 333 k 0) := mF_up (mF_up F (Or.inl ⟨rfl, by simp⟩)) (Or.inl ⟨rfl, by simp⟩)
  have g0 := iG_m2 F0 g
  have R0 := (isRw_eq (m2_A F0)).mpr R
  obtain ⟨h2, Q, d1, d2, d3, d4, d5⟩ := M_laysRow g0.1 hp R0 (by omega)
  have y0 := (m2_A F0).1
  rw [mLn_eq y0, mRA_eq y0] at d1 d4 d5
  rw [mLn_eq y0, mCL_eq y0, y0 286 _ (by decide) (by decide), y0 287 _ (by decide) (by decide)] at d3
  have j2 := (rw_in g.1 hp R).2.1
  rw [← j2] at d1 d4 d5
  have F2 : mF sA2 sT2 h h2 := mF_tr F0 (sT2_of (sT_of d2))
  have g2 := iG_m2 F2 g
  have vin := fun c w => vCe_in g i V hp R (c := c) w
  have pin := fun c w => pkV_in g i V hp R (c := c) w
  have ctin := vCt_in g hp R
  obtain ⟨c1, ⟨c2, c2b⟩, c3, c4, c5, c6, c7, c8, c9⟩ := d3
  have s0 := c4 (rwJ h p (t + k)) (by omega)
  have s1 := c4 (rwJ h p (t + k) + 1) (by omega)
  rw [show ((rwJ h p (t + k) + 1 : Nat) : Int) = (rwJ h p (t + k) : Int) + 1 by omega] at s1
  have S := rS_in (l := mLn h p (t + k)) g.1 hp (rwJ h p (t + k))
  have s0' : h2 2 320 (rwJ h p (t + k) : Int) = rS h p (mLn h p (t + k)) (rwJ h p (t + k)) := s0
  have s1' : h2 2 320 ((rwJ h p (t + k) : Int) + 1) = rS h p (mLn h p (t + k)) (rwJ h p (t + k) + 1) := s1
  have c8' : (mCL h p (mLn h p (t + k))).length ≤ 131 := c8
  have eC : rS h p (mLn h p (t + k)) (rwJ h p (t + k) + 1) - rS h p (mLn h p (t + k)) (rwJ h p (t + k)) = vCt h p (t + k) := rfl
  have r63 := rX13_tellsRows_63 (x1 := p) (x2 := t) (x3 := x3) (x4 := k) (v5 := v5) (v6 := v6) (v7 := v7) (v8 := v8) (y0 := (rwJ h p (t + k) : Int)) (h := h2) g2.1.1 (by omega) (by omega) (by omega) (by omega) (by omega) hk.1 hk.2
  rw [s1', s0', eC] at r63
  have bse : ∀ r i, r = 331 ∨ r = 332 ∨ r = 333 → h2 2 r i = vup (vup h1 2 332 k (-1)) 2 333 k 0 2 r i := fun r i hr => d2 2 r i (fun w => by rcases hr with e | e | e <;> (rw [e] at w; exact absurd w.2 (by decide))) (fun w => by omega)
  -- its clusters
  have inner : ∀ (f : Nat) (c : Int) (hx : vH) (v8 : vv), c + f = vCt h p (t + k) → 0 ≤ c → (∀ kk r i, ¬ (kk = 2 ∧ r = 331) → hx kk r i = vup h2 2 332 k (vCt h p (t + k)) kk r i) → (∀ i, ¬ (132 * k ≤ i ∧ i < 132 * k + 132) → hx 2 331 i = h2 2 331 i) → (∀ c', 0 ≤ c' → c' < c → hx 2 331 (132 * k + c') = pkV h p (t + k) c') → ∃ hy w8, vrun mX13_tellsRows 96 [(1, 282), (0, p), (0, t), (0, x3), (0, k), (0, (rwJ h p (t + k) : Int)), (0, rS h p (mLn h p (t + k)) (rwJ h p (t + k))), (0, c), v8] [] hx = vret vrun mX13_tellsRows 206 [(1, 282), (0, p), (0, t), (0, x3), (0, k), (0, (rwJ h p (t + k) : Int)), (0, rS h p (mLn h p (t + k)) (rwJ h p (t + k))), (0, vCt h p (t + k)), w8] [(0, k), (1, 333)] (vcl mX13_marks [(1, 282), (0, p), (0, t + k)] hy) ∧ (∀ kk r i, ¬ (kk = 2 ∧ r = 331) → hy kk r i = vup h2 2 332 k (vCt h p (t + k)) kk r i) ∧ (∀ i, ¬ (132 * k ≤ i ∧ i < 132 * k + 132) → hy 2 331 i = h2 2 331 i) ∧ ∀ c', 0 ≤ c' → c' < vCt h p (t + k) → hy 2 331 (132 * k + c') = pkV h p (t + k) c' := by
    intro f
    induction f with
    | zero =>
      intro c hx v8 hf h0 e1 e2 e3
      have ec : c = vCt h p (t + k) := by omega
      have Fx : mF sA2 sT2 h hx := fun kk r i n1 n2 => (e1 kk r i (fun w => n1 ⟨w.1, by rw [w.2]; simp⟩)).trans ((if_neg (fun w => n1 ⟨w.1, by rw [w.2.1]; simp⟩)).trans (F2 kk r i n1 n2))
      have sM := (iG_m2 Fx g).1.1
      have e4 : hx 2 332 k = vCt h p (t + k) := (e1 2 332 k (by decide)).trans vup_s
      subst ec
      have e0 := rX13_tellsRows_96 (x1 := p) (x2 := t) (x3 := x3) (x4 := k) (x5 := (rwJ h p (t + k) : Int)) (x6 := rS h p (mLn h p (t + k)) (rwJ h p (t + k))) (x7 := vCt h p (t + k)) (v8 := v8) sM hk.1 hk.2
      exact ⟨hx, v8, (e0 (by omega) (by omega) (by omega) (by omega) (by omega) (by omega) (by omega) (by omega) (by omega) (by omega) (by omega) (by omega) (by omega) (by omega) (by omega) (by omega) (by omega) (by omega) (by omega) (by omega) (by omega) (by omega) (by omega) (by omega) (by omega) (by omega) (by omega) (by omega) (by omega) (by omega) (by omega) (by omega)).trans (if_pos (by omega)), e1, e2, e3⟩
    | succ f ih =>
      intro c hx v8 hf h0 e1 e2 e3
      have Fx : mF sA2 sT2 h hx := fun kk r i n1 n2 => (e1 kk r i (fun w => n1 ⟨w.1, by rw [w.2]; simp⟩)).trans ((if_neg (fun w => n1 ⟨w.1, by rw [w.2.1]; simp⟩)).trans (F2 kk r i n1 n2))
      have sM := (iG_m2 Fx g).1.1
      have e4 : hx 2 332 k = vCt h p (t + k) := (e1 2 332 k (by decide)).trans vup_s
      have er : ∀ r i, ¬ r = 331 → ¬ r = 332 → hx 2 r i = h2 2 r i := fun r i n1 n2 => (e1 2 r i (fun w => n1 w.2)).trans (vup_r n2)
      have pf := (row_f c6 c7.1 c2 c2b (rwJ h p (t + k))).1 (rS h p (mLn h p (t + k)) (rwJ h p (t + k)) + c) (by show rS h p (mLn h p (t + k)) (rwJ h p (t + k)) ≤ _; omega) (by show _ < rS h p (mLn h p (t + k)) (rwJ h p (t + k) + 1); omega)
      have cs := (c5 (rS h p (mLn h p (t + k)) (rwJ h p (t + k)) + c) (by omega) (by omega)).2.2.1
      have eI : lS (sg (mCL h p (mLn h p (t + k)))) (mCL h p (mLn h p (t + k))).length (h 2 286 p) (h 2 287 p) (rS h p (mLn h p (t + k)) (rwJ h p (t + k)) + c) = ceI h p (t + k) c := rfl
      rw [eI] at pf cs
      have pf1 : rS h p (mLn h p (t + k)) (rwJ h p (t + k)) ≤ ceI h p (t + k) c := pf.1
      have pf2 : ceI h p (t + k) c < rS h p (mLn h p (t + k)) (rwJ h p (t + k) + 1) := pf.2
      obtain ⟨t1, t2, t3, -⟩ := mCl_g c1 (k := ceI h p (t + k) c) (by omega) (by omega)
      obtain ⟨w1, w2, w3, w4, w5⟩ := c5 (ceI h p (t + k) c) (by omega) (by omega)
      have V0 := vin c ⟨h0, by omega⟩
      have P0 := pin c ⟨h0, by omega⟩
      have x0 : h2 2 311 (ceI h p (t + k) c) = vCe h p (t + k) c 0 := t1
      have x1 : h2 2 312 (ceI h p (t + k) c) = vCe h p (t + k) c 1 := t2
      have x2 : h2 2 317 (ceI h p (t + k) c) = vCe h p (t + k) c 2 := w4
      have x3' : h2 2 315 (ceI h p (t + k) c) = vCe h p (t + k) c 3 := w1
      have x4 : h2 2 316 (ceI h p (t + k) c) = vCe h p (t + k) c 4 := w2
      have cs' : h2 2 319 (rS h p (mLn h p (t + k)) (rwJ h p (t + k)) + c) = ceI h p (t + k) c := cs
      have e0 := rX13_tellsRows_96 (x1 := p) (x2 := t) (x3 := x3) (x4 := k) (x5 := (rwJ h p (t + k) : Int)) (x6 := rS h p (mLn h p (t + k)) (rwJ h p (t + k))) (x7 := c) (v8 := v8) sM hk.1 hk.2
      rw [e4, er 319 _ (by decide) (by decide), cs', er 311 _ (by decide) (by decide), er 312 _ (by decide) (by decide), er 315 _ (by decide) (by decide), er 316 _ (by decide) (by decide), er 317 _ (by decide) (by decide), x0, x1, x2, x3', x4] at e0
      have ep : vCe h p (t + k) c 0 + 128 * vCe h p (t + k) c 1 + 16384 * (vCe h p (t + k) c 2 + 64 * vCe h p (t + k) c 3 + 512 * vCe h p (t + k) c 4) = pkV h p (t + k) c := rfl
      rw [ep] at e0
      have e6 := (e0 (by omega) (by omega) (by omega) (by omega) (by omega) (by omega) (by omega) (by omega) (by omega) (by omega) (by omega) (by omega) (by omega) (by omega) (by omega) (by omega) (by omega) (by omega) (by omega) (by omega) (by omega) (by omega) (by omega) (by omega) (by omega) (by omega) (by omega) (by omega) (by omega) (by omega) (by omega) (by omega)).trans (if_neg (by omega))
      obtain ⟨hy, w8, q1, q2⟩ := ih (c + 1) (vup hx 2 331 (132 * k + c) (pkV h p (t + k) c)) (0, ceI h p (t + k) c) (by omega) (by omega) (fun kk r i n => (if_neg (fun w => n ⟨w.1, w.2.1⟩)).trans (e1 kk r i n)) (fun i n => (vup_i (by omega)).trans (e2 i n)) (fun c' u v => by
        rw [vup_2]
        by_cases y : 132 * k + c' = 132 * k + c
        · rw [if_pos y, show c' = c by omega]
        · rw [if_neg y]
          exact e3 c' u (by omega))
      exact ⟨hy, w8, e6.trans q1, q2⟩
  obtain ⟨hy, w8, q1, q2, q3, q4⟩ := inner (vCt h p (t + k)).toNat 0 (vup h2 2 332 k (vCt h p (t + k))) v8 (by omega) (Int.le_refl _) (fun _ _ _ _ => rfl) (fun i _ => vup_r (by decide)) (fun c' u v => by omega)
  have Fy : mF sA2 sT2 h hy := fun kk r i n1 n2 => (q2 kk r i (fun w => n1 ⟨w.1, by rw [w.2]; simp⟩)).trans ((if_neg (fun w => n1 ⟨w.1, by rw [w.2.1]; simp⟩)).trans (F2 kk r i n1 n2))
  have gy := iG_m2 Fy g
  obtain ⟨h3, m1, m2⟩ := M_marks gy.1 hp ((isRw_eq (m2_A Fy)).mpr R)
  rw [mkV_eq (m2_A Fy)] at m1
  have F3 : mF sA2 sT2 h h3 := mF_tr Fy (sT2_of (sT_of m2))
  have s3 := (iG_m2 F3 g).1.1
  have sh := shM_333 s3
  have m3 : ∀ r i, r = 331 ∨ r = 332 ∨ r = 333 → h3 2 r i = hy 2 r i := fun r i hr => m2 2 r i (fun w => by rcases hr with e | e | e <;> (rw [e] at w; exact absurd w.2 (by decide))) (fun w => by omega)
  refine ⟨vup h3 2 333 k (mkV h p (t + k)), _, _, _, _, (vret_v d1).trans (r63.trans (q1.trans ((vret_v m1).trans (rX13_tellsRows_209 sh.1 hk.1 (by omega) (by omega) (by omega))))), mF_up F3 (Or.inl ⟨rfl, by simp⟩), fun k' u v => ?_, (vup_k (by decide)).trans ((m2 _ _ _ (by decide) (by decide)).trans ((q2 _ _ _ (by decide)).trans ((vup_k (by decide)).trans ((d2 _ _ _ (by decide) (by decide)).trans ((vup_k (by decide)).trans (vup_k (by decide)))))))⟩
  by_cases y : k' = k
  · subst y
    have eN : dN h p t k' = vCt h p (t + k') := if_pos z
    have eM : dM h p t k' = mkV h p (t + k') := if_pos z
    refine ⟨?_, ?_, fun c s w => ?_⟩
    · rw [eN, vup_r (by decide), m3 _ _ (by decide), q2 _ _ _ (by decide)]
      exact vup_s
    · rw [eM]; exact vup_s
    · rw [eN] at w
      rw [vup_r (by decide), m3 _ _ (by decide)]
      exact q4 c s w
  · obtain ⟨T1, T2, T3⟩ := T k' u (by omega)
    have dn := dN_in g hp ht.1 u
    refine ⟨?_, ?_, fun c s w => ?_⟩
    · rw [vup_r (by decide), m3 _ _ (by decide), q2 _ _ _ (by decide), vup_i y, bse _ _ (by decide), vup_r (by decide), vup_i y]
      exact T1
    · rw [vup_i y, m3 _ _ (by decide), q2 _ _ _ (by decide), vup_r (by decide), bse _ _ (by decide), vup_i y, vup_r (by decide)]
      exact T2
    · rw [vup_r (by decide), m3 _ _ (by decide), q3 _ (by omega), bse _ _ (by decide), vup_r (by decide), vup_r (by decide)]
      exact T3 c s w
end DRW
