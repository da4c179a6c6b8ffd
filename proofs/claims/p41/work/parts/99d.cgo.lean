/-! a pane of the class moves -/
def gP (h : vH) (P : Int) (q : Int × Int) : Prop := h 901 (P + 25) 0 = q.1 ∧ h 902 (P + 25) 0 = q.2
section CGO
variable {h h2 a : vH} {p P l x : Int}
theorem gP_qM {q : Int × Int} (z : qM P h h2) (e : gP h P q) : gP h2 P q := ⟨(z _ _ _ (by omega)).trans e.1, (z _ _ _ (by omega)).trans e.2⟩
theorem cRd_gs (c : cRd h a p P) : shPlace h (P + 25) := c.2.1.1.2.2.2.2.2.2.2.2.2.2.2.2.2.1
theorem C_setGoal (hP : 138 ≤ P) (c : cRd h a p P) : vcl mX7_set [(1, P + 25), (0, l), (0, x)] h = some (.inl none, vup (vup h 901 (P + 25) 0 l) 902 (P + 25) 0 x) ∧ qC P h (vup (vup h 901 (P + 25) 0 l) 902 (P + 25) 0 x) ∧ cRd (vup (vup h 901 (P + 25) 0 l) 902 (P + 25) 0 x) a p P ∧ gP (vup (vup h 901 (P + 25) 0 l) 902 (P + 25) 0 x) P (l, x) :=
  ⟨rX7_set_0 (cRd_gs c), qW_C (qW_set (by omega)), cRd_gl hP c, (vup_k (by decide)).trans vup_s, vup_s⟩
theorem mRC_pos (g : mG a) (hp : 0 ≤ p ∧ p < 4) (hl : 0 ≤ l ∧ l < 60) : mRC a p l ≤ 0 ↔ mInv a p l := by
  have b := mRC_in g hp hl
  constructor
  · intro z
    refine Classical.byContradiction fun w => ?_
    have := b.2.2 w
    omega
  · intro z
    have : mRC a p l = 0 := if_pos z
    omega
/-- what an aim of the class leaves -/
def aimX (h a : vH) (p P : Int) (q : Int × Int) (X : Option (vR × vH)) : Prop := ∃ h2, X = some (.inl none, h2) ∧ qC P h h2 ∧ cRd h2 a p P ∧ gP h2 P q
theorem C_aimLeft (g : iG a) (hp : 0 ≤ p ∧ p < 4) (hP : 138 ≤ P) (c : cRd h a p P) (e : gP h P (cuL a p, cuX a p)) : aimX h a p P (gAh a p) (vcl mX5_aimLeft [(1, P)] h) := by
  have gl := g.1.2.1
  have q0 := cu_in g hp
  obtain ⟨h1, m1, m2, m3, m4⟩ := C_measured g hp c.1 c.2.1 c.2.2.2.1 (l := cuL a p) q0.1
  have c1 := cRd_qM hP m2 c m3
  have e1 := gP_qM m2 e
  obtain ⟨R, q, ql, qt, qr⟩ := cRd_Q g hp c1 m4 q0.1.1
  have sa := C_shownAhead q (x := cuX a p)
  have s0 := rX5_aimLeft_0 (h := h) (x0 := P) c.2.1.1
  rw [e.1] at s0
  have s1 := rX5_aimLeft_11 (h := h1) (x0 := P) (y0 := P + 5) c1.2.1.1 q.1
  rw [e1.2] at s1
  have s2 := rX5_aimLeft_21 (h := h1) (x0 := P) (y0 := saF (mCL a p (cuL a p)) (cuX a p) (mCL a p (cuL a p)).length 0 (-1)) c1.2.1.1 (by rw [e1.1]; show _ → _ ≤ cuL a p - 1; omega) (by rw [e1.1]; show _ → cuL a p - 1 < _; omega)
  rw [e1.1] at s2
  have base : vcl mX5_aimLeft [(1, P)] h = _ := s0.trans ((vret_v m1).trans (s1.trans ((vret_v sa).trans s2)))
  unfold gAh
  by_cases z1 : saF (mCL a p (cuL a p)) (cuX a p) (mCL a p (cuL a p)).length 0 (-1) = -1
  · rw [if_pos z1]
    rw [if_pos z1] at base
    have loop : ∀ (k : Nat) (v : Int), (k : Int) ≤ cuL a p → aimX h1 a p P (if bsD a p k = -1 then (cuL a p, cuX a p) else (bsD a p k, a 2 284 (bsD a p k))) (vrun mX5_aimLeft 53 [(1, P), (0, v), (0, (k : Int) - 1)] [] h1) := by
      intro k
      induction k with
      | zero =>
        intro v hk
        refine ⟨h1, ?_, qC_rf, c1, e1⟩
        refine (rX5_aimLeft_53 c1.2.1.1 (by omega) c1.1.1 (fun y => absurd (show ((0 : Nat) : Int) - 1 < 0 by omega) y)).trans ?_
        rw [if_pos (by omega)]
      | succ k ih =>
        intro v hk
        have eb : bsD a p (k + 1) = @ite _ (mInv a p (k : Int)) (Classical.propDecidable _) (bsD a p k) (k : Int) := rfl
        rw [show ((k + 1 : Nat) : Int) - 1 = (k : Int) by omega, eb]
        obtain ⟨f1, f2⟩ := cRd_f g.1 c1 (l := k) (by omega)
        have at1 := C_at c1.1 (l := (k : Int)) ⟨by omega, by omega⟩
        have ln := (c1.1.2.2.2.2 (k : Int) (by omega) (by omega)).1
        have mp := mRC_pos g.1 hp (l := (k : Int)) ⟨by omega, by omega⟩
        have st := rX5_aimLeft_53 (h := h1) (x0 := P) (x1 := v) (x2 := (k : Int)) c1.2.1.1 (by omega) c1.1.1 (fun _ _ => by rw [at1]; exact ln.1)
        rw [if_neg (by omega), f1, at1, ln.2.1] at st
        by_cases y : mInv a p (k : Int)
        · rw [if_pos y]
          rw [if_pos (mp.mpr y)] at st
          obtain ⟨h2, i1, i2⟩ := ih v (by omega)
          exact ⟨h2, st.trans i1, i2⟩
        · rw [if_neg y, if_neg (by omega)]
          rw [if_neg (fun w => y (mp.mp w))] at st
          obtain ⟨t1, t2, t3, t4⟩ := C_setGoal (l := (k : Int)) (x := a 2 284 (k : Int)) hP c1
          exact ⟨_, st.trans ((vret_n t1).trans rX5_aimLeft_84), t2, t3, t4⟩
    have lp := loop (cuL a p).toNat (saF (mCL a p (cuL a p)) (cuX a p) (mCL a p (cuL a p)).length 0 (-1)) (by omega)
    rw [show (((cuL a p).toNat : Nat) : Int) = cuL a p by omega] at lp
    obtain ⟨h2, i1, i2, i3, i4⟩ := lp
    exact ⟨h2, base.trans i1, qC_tr (qM_C m2) i2, i3, i4⟩
  · rw [if_neg z1]
    rw [if_neg z1] at base
    obtain ⟨t1, t2, t3, t4⟩ := C_setGoal (l := cuL a p) (x := saF (mCL a p (cuL a p)) (cuX a p) (mCL a p (cuL a p)).length 0 (-1)) hP c1
    exact ⟨_, base.trans ((vret_n t1).trans rX5_aimLeft_42), qC_tr (qM_C m2) t2, t3, t4⟩
theorem C_aimRight (g : iG a) (hp : 0 ≤ p ∧ p < 4) (hP : 138 ≤ P) (c : cRd h a p P) (e : gP h P (cuL a p, cuX a p)) : aimX h a p P (gBe a p) (vcl mX5_aimRight [(1, P)] h) := by
  have gl := g.1.2.1
  have q0 := cu_in g hp
  obtain ⟨h1, m1, m2, m3, m4⟩ := C_measured g hp c.1 c.2.1 c.2.2.2.1 (l := cuL a p) q0.1
  have c1 := cRd_qM hP m2 c m3
  have e1 := gP_qM m2 e
  obtain ⟨R, q, ql, qt, qr⟩ := cRd_Q g hp c1 m4 q0.1.1
  have sb := C_shownBehind q (x := cuX a p) ql
  have es : sbO a p (cuL a p) (cuX a p) = sbF (mCL a p (cuL a p)) (cuX a p) (if a 2 284 (cuL a p) ≤ cuX a p then -1 else a 2 284 (cuL a p)) (mCL a p (cuL a p)).length 0 := rfl
  rw [← es] at sb
  have s0 := rX5_aimRight_0 (h := h) (x0 := P) c.2.1.1
  rw [e.1] at s0
  have s1 := rX5_aimRight_11 (h := h1) (x0 := P) (y0 := P + 5) c1.2.1.1 q.1
  rw [e1.2] at s1
  have s2 := rX5_aimRight_21 (h := h1) (x0 := P) (y0 := sbO a p (cuL a p) (cuX a p)) c1.2.1.1 (by rw [e1.1]; show _ → _ ≤ cuL a p + 1; omega) (by rw [e1.1]; show _ → cuL a p + 1 < _; omega)
  rw [e1.1] at s2
  have base : vcl mX5_aimRight [(1, P)] h = _ := s0.trans ((vret_v m1).trans (s1.trans ((vret_v sb).trans s2)))
  have cn := c1.1.2.1.1
  unfold gBe
  by_cases z1 : sbO a p (cuL a p) (cuX a p) = -1
  · rw [if_pos z1]
    rw [if_pos z1] at base
    have loop : ∀ (f : Nat) (k v : Int), k + f = a 1504 282 0 → cuL a p < k → aimX h1 a p P (if bsU a p f k = -1 then (cuL a p, cuX a p) else (bsU a p f k, sbO a p (bsU a p f k) (-1))) (vrun mX5_aimRight 53 [(1, P), (0, v), (0, k)] [] h1) := by
      intro f
      induction f with
      | zero =>
        intro k v hk h0
        refine ⟨h1, ?_, qC_rf, c1, e1⟩
        refine (rX5_aimRight_53 c1.2.1.1 c1.1.1 (by omega) (by omega)).trans ?_
        rw [if_pos (by omega)]
      | succ f ih =>
        intro k v hk h0
        have eb : bsU a p (f + 1) k = @ite _ (mInv a p k) (Classical.propDecidable _) (bsU a p f (k + 1)) k := rfl
        rw [eb]
        obtain ⟨f1, f2⟩ := cRd_F g.1 c1 (l := k) ⟨by omega, by omega⟩
        have mp := mRC_pos g.1 hp (l := k) ⟨by omega, by omega⟩
        have st := rX5_aimRight_53 (h := h1) (x0 := P) (x1 := v) (x2 := k) c1.2.1.1 c1.1.1 (by omega) (by omega)
        rw [if_neg (by omega), f1] at st
        by_cases y : mInv a p k
        · rw [if_pos y]
          rw [if_pos (mp.mpr y)] at st
          obtain ⟨h2, i1, i2⟩ := ih (k + 1) v (by omega) (by omega)
          exact ⟨h2, st.trans i1, i2⟩
        · rw [if_neg y, if_neg (by omega)]
          rw [if_neg (fun w => y (mp.mp w))] at st
          obtain ⟨h2, n1, n2, n3, n4⟩ := C_measured g hp c1.1 c1.2.1 c1.2.2.2.1 (l := k) ⟨by omega, by omega⟩
          have c2 := cRd_qM hP n2 c1 n3
          obtain ⟨R2, q2, ql2, -, -⟩ := cRd_Q g hp c2 n4 (by omega)
          have sb2 := C_shownBehind q2 (x := -1) ql2
          obtain ⟨t1, t2, t3, t4⟩ := C_setGoal (l := k) (x := sbO a p k (-1)) hP c2
          exact ⟨_, st.trans ((vret_v n1).trans ((rX5_aimRight_82 q2.1).trans ((vret_v sb2).trans ((rX5_aimRight_86 (cRd_gs c2)).trans ((vret_n t1).trans rX5_aimRight_89))))), qC_tr (qM_C n2) t2, t3, t4⟩
    obtain ⟨h2, i1, i2, i3, i4⟩ := loop (a 1504 282 0 - (cuL a p + 1)).toNat (cuL a p + 1) (sbO a p (cuL a p) (cuX a p)) (by omega) (by omega)
    exact ⟨h2, base.trans i1, qC_tr (qM_C m2) i2, i3, i4⟩
  · rw [if_neg z1]
    rw [if_neg z1] at base
    obtain ⟨t1, t2, t3, t4⟩ := C_setGoal (l := cuL a p) (x := sbO a p (cuL a p) (cuX a p)) hP c1
    exact ⟨_, base.trans ((vret_n t1).trans rX5_aimRight_42), qC_tr (qM_C m2) t2, t3, t4⟩
theorem C_aimInRow (g : iG a) (hp : 0 ≤ p ∧ p < 4) (hP : 138 ≤ P) (c : cRd h a p P) (e : gP h P (cuL a p, cuX a p)) {mv : Int} : aimX h a p P (if mv = 4 then gHo a p else gEn a p) (vcl mX5_aimInRow [(1, P), (0, mv)] h) := by
  have gl := g.1.2.1
  have q0 := cu_in g hp
  have cr := rw_in g.1 hp q0.2.2.2.1
  have c0 := q0.2.2.2.1.1
  have ec := q0.2.2.2.2
  obtain ⟨h0, d1, d2, c0', -⟩ := C_rowDown g hp hP c (l := cuL a p) (x := cuX a p) q0.1 (s := 0) (Or.inl rfl)
  have e0 := gP_qM d2 e
  obtain ⟨f1, f2⟩ := cRd_F g.1 c0' q0.1
  obtain ⟨h1, m1, m2, m3, m4⟩ := C_measured g hp c0'.1 c0'.2.1 c0'.2.2.2.1 (l := cuL a p) q0.1
  have c1 := cRd_qM hP m2 c0' m3
  have e1 := gP_qM m2 e0
  obtain ⟨R, q, ql, qt, qr⟩ := cRd_Q g hp c1 m4 q0.1.1
  have qr := qr q0.2.2.1
  have s0 := rX5_aimInRow_0 (h := h) (x0 := P) (x1 := mv) c.2.1.1
  rw [e.1, e.2] at s0
  have ma := mRA_in g.1 hp (cuL a p).toNat (by omega)
  have s1 := rX5_aimInRow_20 (h := h0) (x0 := P) (x1 := mv) (y0 := cuR a p) (y1 := P) c0'.2.1.1 c0'.2.1.1 (by rw [e0.1]; show _ ≤ cuR a p - fX5_firstRow h0 P (cuL a p); omega) (by rw [e0.1]; show cuR a p - fX5_firstRow h0 P (cuL a p) < _; omega)
  rw [e0.1] at s1
  have ej : cuR a p - fX5_firstRow h0 P (cuL a p) = (rwJ a p (cuR a p) : Int) := by
    rw [f2, cr.2.1, ← ec]
    rfl
  have s1 := s1.trans (congrArg (fun z => vret vrun mX5_aimInRow 39 [(1, P), (0, mv), (0, z), (9, 0), (9, 0)] [] (vcl mX5_measured [(1, P), (0, cuL a p)] h0)) ej)
  have jr : (rwJ a p (cuR a p) : Int) < R := by
    have := cr.2.2.1
    rw [ec] at this
    omega
  have base : vcl mX5_aimInRow [(1, P), (0, mv)] h = _ := s0.trans ((vret_v d1).trans (s1.trans ((vret_v m1).trans (rX5_aimInRow_42 q.1))))
  have f0 := qC_tr (qM_C d2) (qM_C m2)
  by_cases z : mv = 4
  · rw [if_pos z]
    rw [if_pos z] at base
    have fp := C_firstPlace q (j := rwJ a p (cuR a p)) (by omega) ql
    rw [← qr] at fp
    have ep : plR a p (cuR a p) = fpS (mCL a p (cuL a p)) (if (rwJ a p (cuR a p) : Int) = mRC a p (cuL a p) - 1 then a 2 284 (cuL a p) else 0) (rS a p (cuL a p) (rwJ a p (cuR a p) + 1) - rS a p (cuL a p) (rwJ a p (cuR a p))).toNat (rS a p (cuL a p) (rwJ a p (cuR a p))) := by
      unfold plR
      rw [ec]
    have pin := plR_in g hp q0.2.2.2.1
    have s3 := rX5_aimInRow_53 (h := h1) (x0 := P) (x1 := mv) (x2 := (rwJ a p (cuR a p) : Int)) (x3 := P + 5) (y0 := plR a p (cuR a p)) c1.2.1.1
    rw [if_neg (by omega), e1.1] at s3
    obtain ⟨t1, t2, t3, t4⟩ := C_setGoal (l := cuL a p) (x := plR a p (cuR a p)) hP c1
    have fp' : vcl mX3_firstPlace [(1, P + 5), (0, (rwJ a p (cuR a p) : Int))] h1 = some (.inl (some (0, plR a p (cuR a p))), h1) := fp.trans (by rw [ep]; rfl)
    refine ⟨_, base.trans ((vret_v fp').trans (s3.trans ((vret_n t1).trans rX5_aimInRow_85))), qC_tr f0 t2, t3, ?_⟩
    unfold gHo
    rw [ec]
    exact t4
  · rw [if_neg z]
    rw [if_neg z] at base
    have lp := C_lastPlace q (j := rwJ a p (cuR a p)) (by omega) ql
    rw [← qr] at lp
    have ep : lpR a p (cuR a p) = if (rwJ a p (cuR a p) : Int) = mRC a p (cuL a p) - 1 then a 2 284 (cuL a p) else lpM (mCL a p (cuL a p)) (rS a p (cuL a p) (rwJ a p (cuR a p) + 1) - rS a p (cuL a p) (rwJ a p (cuR a p))).toNat (rS a p (cuL a p) (rwJ a p (cuR a p))) (-1) := by
      unfold lpR
      rw [ec]
    have lp' : vcl mX3_lastPlace [(1, P + 5), (0, (rwJ a p (cuR a p) : Int))] h1 = some (.inl (some (0, lpR a p (cuR a p))), h1) := lp.trans (by rw [ep]; rfl)
    have s3 := rX5_aimInRow_61 (h := h1) (x0 := P) (x1 := mv) (x2 := (rwJ a p (cuR a p) : Int)) (x3 := P + 5) (y0 := lpR a p (cuR a p)) c1.2.1.1
    rw [e1.1] at s3
    unfold gEn
    by_cases w : lpR a p (cuR a p) = -1
    · rw [if_pos w]
      rw [if_pos w] at s3
      exact ⟨h1, base.trans ((vret_v lp').trans s3), f0, c1, e1⟩
    · rw [if_neg w]
      rw [if_neg w] at s3
      obtain ⟨t1, t2, t3, t4⟩ := C_setGoal (l := cuL a p) (x := lpR a p (cuR a p)) hP c1
      refine ⟨_, base.trans ((vret_v lp').trans (s3.trans ((vret_n t1).trans rX5_aimInRow_85))), qC_tr f0 t2, t3, ?_⟩
      rw [ec]
      exact t4
theorem C_aimAtRow (g : iG a) (hp : 0 ≤ p ∧ p < 4) (hP : 138 ≤ P) (c : cRd h a p P) (e : gP h P (cuL a p, cuX a p)) {r : Int} (hr : isRw a p r) : aimX h a p P (if r = cuR a p then (cuL a p, cuX a p) else ((mLn a p r : Int), upR a p r (a 2 307 p))) (vcl mX5_aimAtRow [(1, P), (0, r)] h) := by
  have q0 := cu_in g hp
  obtain ⟨h0, d1, d2, c0, -⟩ := C_rowDown g hp hP c (l := cuL a p) (x := cuX a p) q0.1 (s := 0) (Or.inl rfl)
  have e0 := gP_qM d2 e
  have s0 := rX5_aimAtRow_0 (h := h) (x0 := P) (x1 := r) c.2.1.1
  rw [e.1, e.2] at s0
  have base : vcl mX5_aimAtRow [(1, P), (0, r)] h = _ := s0.trans ((vret_v d1).trans (rX5_aimAtRow_20 c0.2.1.1))
  have base : vcl mX5_aimAtRow [(1, P), (0, r)] h = if r = cuR a p then some (.inl none, h0) else vret vrun mX5_aimAtRow 29 [(1, P), (0, r)] [(1, P + 25)] (vcl mX5_lineOfRow [(1, P), (0, r)] h0) := base
  by_cases z : r = cuR a p
  · rw [if_pos z]
    rw [if_pos z] at base
    exact ⟨h0, base, qM_C d2, c0, e0⟩
  · rw [if_neg z]
    rw [if_neg z] at base
    have lr := C_lineOfRow g.1 hp c0 hr
    obtain ⟨h1, u1, u2, c1⟩ := C_placeUp g hp hP c0 hr (x := a 2 307 p)
    have s1 := rX5_aimAtRow_32 (h := h0) (x0 := P) (x1 := r) (y0 := (mLn a p r : Int)) (y1 := P + 25) c0.2.1.1
    rw [show h0 707 P 0 = a 2 307 p from c0.2.1.2.2.2.2.1] at s1
    obtain ⟨t1, t2, t3, t4⟩ := C_setGoal (l := (mLn a p r : Int)) (x := upR a p r (a 2 307 p)) hP c1
    exact ⟨_, base.trans ((vret_v lr).trans (s1.trans ((vret_v u1).trans ((rX5_aimAtRow_41 (cRd_gs c1)).trans ((vret_n t1).trans rX5_aimAtRow_44))))), qC_tr (qC_tr (qM_C d2) (qM_C u2)) t2, t3, t4⟩
/-- how many rows a move goes -/
noncomputable def mvY (a : vH) (p mv : Int) : Int := if mv = 2 then -1 else if mv = 3 then 1 else if mv = 6 then -a 2 310 p else a 2 310 p
theorem C_rowOfMove (g : iG a) (hp : 0 ≤ p ∧ p < 4) (hP : 138 ≤ P) (c : cRd h a p P) (e : gP h P (cuL a p, cuX a p)) {mv H : Int} (eH : H = a 2 310 p) (hH : 1 ≤ a 2 310 p ∧ a 2 310 p ≤ 24) : ∃ h2, vcl mX5_rowOfMove [(1, P), (0, mv), (0, H)] h = some (.inl (some (0, rTo a p (mvY a p mv))), h2) ∧ qC P h h2 ∧ cRd h2 a p P ∧ gP h2 P (cuL a p, cuX a p) := by
  have q0 := cu_in g hp
  have cr := isRw_all.mp q0.2.2.2.1
  have al := mAll_in g.1 hp
  obtain ⟨h0, d1, d2, c0, -⟩ := C_rowDown g hp hP c (l := cuL a p) (x := cuX a p) q0.1 (s := 0) (Or.inl rfl)
  have e0 := gP_qM d2 e
  have s0 := rX5_rowOfMove_0 (h := h) (x0 := P) (x1 := mv) (x2 := H) c.2.1.1
  rw [e.1, e.2] at s0
  have n0 := (cRd_n c0).1
  have k : (if mv = 2 then (1 : Int) else (if mv = 3 then 1 else H)) ≤ 24 ∧ 1 ≤ (if mv = 2 then (1 : Int) else (if mv = 3 then 1 else H)) := by
    split
    · omega
    · split <;> omega
  refine ⟨h0, ?_, qM_C d2, c0, e0⟩
  refine s0.trans ((vret_v d1).trans ((rX5_rowOfMove_19 (y0 := cuR a p) (by omega) (by omega) c0.2.1.1 (by omega) (by omega) (by omega) (by omega)).trans ?_))
  rw [n0]
  have ee : (if mv = 2 ∨ mv = 6 then max 0 (cuR a p - (if mv = 2 then 1 else (if mv = 3 then 1 else H))) else min (mAll a p - 1) (cuR a p + (if mv = 2 then 1 else (if mv = 3 then 1 else H)))) = rTo a p (mvY a p mv) := by
    unfold rTo mvY
    by_cases z2 : mv = 2
    · rw [if_pos (Or.inl z2), if_pos z2, if_pos z2]
      split <;> split <;> omega
    · by_cases z3 : mv = 3
      · rw [if_neg (by omega), if_neg z2, if_pos z3, if_neg z2, if_pos z3]
        split <;> split <;> omega
      · by_cases z6 : mv = 6
        · rw [if_pos (Or.inr z6), if_neg z2, if_neg z3, if_neg z2, if_neg z3, if_pos z6]
          split <;> split <;> omega
        · rw [if_neg (by omega), if_neg z2, if_neg z3, if_neg z2, if_neg z3, if_neg z6]
          split <;> split <;> omega
  rw [ee]
theorem C_takeGoal (g : iG a) (hp : 0 ≤ p ∧ p < 4) (hP : 138 ≤ P) (c : cRd h a p P) {q : Int × Int} (e : gP h P q) : ∃ h2, vcl mX5_takeGoal [(1, P)] h = some (.inl (some (0, b2i (¬ (q.1 = cuL a p ∧ q.2 = cuX a p)))), h2) ∧ qC P h h2 ∧ cRd h2 (tCh a p q.1 q.2) p P := by
  have ex : fX7_isAt h (P + 25) (cuL a p) (cuX a p) = b2i (q.1 = cuL a p ∧ q.2 = cuX a p) := by
    unfold fX7_isAt
    rw [e.1, e.2, b2i_if]
  have s := rX5_takeGoal_20 (h := h) (x0 := P) (y0 := cuX a p) (y1 := cuL a p) (y2 := P + 25) (cRd_gs c) c.2.1.1
  rw [ex, e.1, e.2] at s
  have base : vcl mX5_takeGoal [(1, P)] h = _ := (rX5_takeGoal_0 c.2.1.1).trans ((vret_v (C_cuL g hp c)).trans ((rX5_takeGoal_12 c.2.1.1).trans ((vret_v (C_cuX g hp c)).trans s)))
  unfold tCh
  by_cases z : q.1 = cuL a p ∧ q.2 = cuX a p
  · rw [if_pos z, b2i_f (fun w => w z)]
    rw [b2i_t z, if_neg (by decide)] at base
    exact ⟨h, base, qC_rf, c⟩
  · rw [if_neg z, b2i_t z]
    rw [b2i_f z, if_pos rfl] at base
    have st : vcl mX7_set [(1, P + 23), (0, q.1), (0, q.2)] h = some (.inl none, vup (vup h 901 (P + 23) 0 q.1) 902 (P + 23) 0 q.2) := rX7_set_0 (cRd_cu c).1
    exact ⟨_, base.trans ((vret_n st).trans rX5_takeGoal_49), qW_C (qW_set (by omega)), cRd_go hP c⟩
/-- THE CLASS MOVES -/
theorem C_go (g : iG a) (hp : 0 ≤ p ∧ p < 4) (hP : 138 ≤ P) (c : cRd h a p P) {mv H : Int} (eH : H = a 2 310 p) (hH : 1 ≤ a 2 310 p ∧ a 2 310 p ≤ 24) (hm : 0 ≤ mv ∧ mv ≤ 7) : ∃ h2, vcl mX5_go [(1, P), (0, mv), (0, H)] h = some (.inl (some (0, mvd a p mv)), h2) ∧ qC P h h2 ∧ cRd h2 (if mv = 0 ∨ mv = 1 ∨ mv = 4 ∨ mv = 5 then tWn (tM1 a p mv) p (cuC (tM1 a p mv) p) else tM1 a p mv) p P := by
  have g1 : iG (tM1 a p mv) := iG_chP g (isP_Mv g hp)
  obtain ⟨t1, t2, c1, e1⟩ := C_setGoal (l := cuL a p) (x := cuX a p) hP c
  have base0 : vcl mX5_go [(1, P), (0, mv), (0, H)] h = _ := (rX5_go_0 c.2.1.1).trans ((vret_v (C_cuL g hp c)).trans ((rX5_go_12 c.2.1.1).trans ((vret_v (C_cuX g hp c)).trans ((rX5_go_20 (cRd_gs c)).trans ((vret_n t1).trans (rX5_go_23 c1.2.1.1))))))
  -- the end
  have fin : ∀ (h3 : vH), qC P h h3 → cRd h3 (tM1 a p mv) p P → ∃ h2, vrun mX5_go 78 [(1, P), (0, mv), (0, H), (9, 0)] [(0, mvd a p mv)] h3 = some (.inl (some (0, mvd a p mv)), h2) ∧ qC P h h2 ∧ cRd h2 (if mv = 0 ∨ mv = 1 ∨ mv = 4 ∨ mv = 5 then tWn (tM1 a p mv) p (cuC (tM1 a p mv) p) else tM1 a p mv) p P := by
    intro h3 f3 c3
    have s := rX5_go_78 (h := h3) (x0 := P) (x1 := mv) (x2 := H) (y0 := mvd a p mv) c3.2.1.1 (fun _ _ _ _ => b2i_01)
    by_cases z : mv = 0 ∨ mv = 1 ∨ mv = 4 ∨ mv = 5
    · rw [if_pos z]
      obtain ⟨h4, d1, d2, d3⟩ := C_cursorColumn g1 hp hP c3
      have last : vret vrun mX5_go 100 [(1, P), (0, mv), (0, H), (0, mvd a p mv)] [(1, P)] (vcl mX5_cursorColumn [(1, P)] h3) = some (.inl (some (0, mvd a p mv)), vup h4 707 P 0 (cuC (tM1 a p mv) p)) := (vret_v d1).trans (rX5_go_103 d3.2.1.1 b2i_01)
      rw [last] at s
      refine ⟨_, s.trans ?_, qC_tr f3 (qC_tr (qM_C d2) (qW_C qW_wn)), cRd_wn hP d3⟩
      rcases z with z | z | z | z
      · rw [if_pos z]
      · rw [if_neg (by omega), if_pos z]
      · rw [if_neg (by omega), if_neg (by omega), if_pos z]
      · rw [if_neg (by omega), if_neg (by omega), if_neg (by omega), if_pos z]
    · rw [if_neg z]
      rw [if_neg (by omega), if_neg (by omega), if_neg (by omega), if_neg (by omega)] at s
      exact ⟨h3, s, f3, c3⟩
  have take : ∀ (h2 : vH), qC P h h2 → cRd h2 a p P → gP h2 P (gMv a p mv) → ∃ h3, vcl mX5_takeGoal [(1, P)] h2 = some (.inl (some (0, mvd a p mv)), h3) ∧ qC P h h3 ∧ cRd h3 (tM1 a p mv) p P := by
    intro h2 f2 c2 e2
    obtain ⟨h3, d1, d2, d3⟩ := C_takeGoal g hp hP c2 e2
    exact ⟨h3, d1, qC_tr f2 d2, d3⟩
  by_cases z0 : mv = 0
  · have em : gMv a p mv = gAh a p := by unfold gMv; rw [if_pos z0]
    obtain ⟨h2, a1, a2, a3, a4⟩ := C_aimLeft g hp hP c1 e1
    rw [if_pos z0] at base0
    obtain ⟨h3, b1, b2, b3⟩ := take h2 (qC_tr t2 a2) a3 (by rw [em]; exact a4)
    obtain ⟨h4, d1, d2⟩ := fin h3 b2 b3
    exact ⟨h4, base0.trans ((vret_n a1).trans ((rX5_go_31 a3.2.1.1).trans ((vret_v b1).trans d1))), d2⟩
  by_cases z1 : mv = 1
  · have em : gMv a p mv = gBe a p := by unfold gMv; rw [if_neg z0, if_pos z1]
    obtain ⟨h2, a1, a2, a3, a4⟩ := C_aimRight g hp hP c1 e1
    rw [if_neg z0, if_pos z1] at base0
    obtain ⟨h3, b1, b2, b3⟩ := take h2 (qC_tr t2 a2) a3 (by rw [em]; exact a4)
    obtain ⟨h4, d1, d2⟩ := fin h3 b2 b3
    exact ⟨h4, base0.trans ((vret_n a1).trans ((rX5_go_43 a3.2.1.1).trans ((vret_v b1).trans d1))), d2⟩
  by_cases z45 : mv = 4 ∨ mv = 5
  · have em : gMv a p mv = if mv = 4 then gHo a p else gEn a p := by
      unfold gMv
      rw [if_neg z0, if_neg z1, if_neg (by omega), if_neg (by omega)]
      by_cases w : mv = 4
      · rw [if_pos w, if_pos w]
      · rw [if_neg w, if_neg w, if_pos (by omega)]
    obtain ⟨h2, a1, a2, a3, a4⟩ := C_aimInRow g hp hP c1 e1 (mv := mv)
    have base1 : vcl mX5_go [(1, P), (0, mv), (0, H)] h = vret vrun mX5_go 58 [(1, P), (0, mv), (0, H), (9, 0)] [] (vcl mX5_aimInRow [(1, P), (0, mv)] (vup (vup h 901 (P + 25) 0 (cuL a p)) 902 (P + 25) 0 (cuX a p))) := by
      refine base0.trans ?_
      rw [if_neg z0, if_neg z1]
      rcases z45 with w | w
      · rw [if_pos w]
      · rw [if_neg (by omega), if_pos w]
    obtain ⟨h3, b1, b2, b3⟩ := take h2 (qC_tr t2 a2) a3 (by rw [em]; exact a4)
    obtain ⟨h4, d1, d2⟩ := fin h3 b2 b3
    exact ⟨h4, base1.trans ((vret_n a1).trans ((rX5_go_61 a3.2.1.1).trans ((vret_v b1).trans d1))), d2⟩
  have em : gMv a p mv = if rTo a p (mvY a p mv) = cuR a p then (cuL a p, cuX a p) else ((mLn a p (rTo a p (mvY a p mv)) : Int), upR a p (rTo a p (mvY a p mv)) (a 2 307 p)) := by
    unfold gMv mvY
    rw [if_neg z0, if_neg z1]
    by_cases w2 : mv = 2
    · rw [if_pos w2, if_pos w2]; rfl
    · rw [if_neg w2, if_neg w2]
      by_cases w3 : mv = 3
      · rw [if_pos w3, if_pos w3]; rfl
      · rw [if_neg w3, if_neg w3, if_neg (by omega), if_neg (by omega)]
        by_cases w6 : mv = 6
        · rw [if_pos w6, if_pos w6]; rfl
        · rw [if_neg w6, if_neg w6]; rfl
  rw [if_neg z0, if_neg z1, if_neg (by omega), if_neg (by omega)] at base0
  obtain ⟨h2, a1, a2, a3, a4⟩ := C_rowOfMove g hp hP c1 e1 (mv := mv) eH hH
  obtain ⟨h3, b1, b2, b3, b4⟩ := C_aimAtRow g hp hP a3 a4 (rTo_in g hp (y := mvY a p mv))
  obtain ⟨h4, k1, k2, k3⟩ := take h3 (qC_tr t2 (qC_tr a2 b2)) b3 (by rw [em]; exact b4)
  obtain ⟨h5, d1, d2⟩ := fin h4 k2 k3
  exact ⟨h5, base0.trans ((vret_v a1).trans ((rX5_go_71 a3.2.1.1).trans ((vret_n b1).trans ((rX5_go_74 b3.2.1.1).trans ((vret_v k1).trans d1))))), d2⟩
theorem vup_id {k : Nat} {r i : Int} : vup h k r i (h k r i) = h := by
  funext k' r' i'
  unfold vup
  split
  · rename_i z
    rw [z.1, z.2.1, z.2.2]
  · rfl
theorem M2_go {mv : Int} (hm : 0 ≤ mv ∧ mv ≤ 7) : (if mv = 0 ∨ mv = 1 ∨ mv = 4 ∨ mv = 5 then tWn (tM1 a p mv) p (cuC (tM1 a p mv) p) else tM1 a p mv) = tM2 a p mv := by
  unfold tM2
  by_cases z : mv = 0 ∨ mv = 1 ∨ mv = 4 ∨ mv = 5
  · rw [if_pos z, if_neg (by omega)]
  · rw [if_neg z, if_pos (by omega)]
    exact vup_id.symm
/-- it moves, and follows -/
theorem C_goFollow (g : iG a) (hp : 0 ≤ p ∧ p < 4) (hP : 138 ≤ P) (c : cRd h a p P) {mv H : Int} (eH : H = a 2 310 p) (hH : 1 ≤ a 2 310 p ∧ a 2 310 p ≤ 24) (hm : 0 ≤ mv ∧ mv ≤ 7) : ∃ h2, vcl mX5_go [(1, P), (0, mv), (0, H)] h = some (.inl (some (0, mvd a p mv)), h2) ∧ qC P h h2 ∧ cRd h2 (tM2 a p mv) p P ∧ ∃ h3, vcl mX5_follow [(1, P), (0, H)] h2 = some (.inl none, h3) ∧ qC P h h3 ∧ cRd h3 (tLk (tM2 a p mv) p) p P := by
  obtain ⟨h2, a1, a2, a3⟩ := C_go g hp hP c eH hH hm
  rw [M2_go hm] at a3
  obtain ⟨h3, b1, b2, b3⟩ := C_follow (iG_M2 g hp) hp hP a3 (H := H) (by rw [M2_H]; exact eH) (by rw [M2_H]; exact hH)
  exact ⟨h2, a1, a2, a3, h3, b1, qC_tr a2 b2, b3⟩
end CGO

