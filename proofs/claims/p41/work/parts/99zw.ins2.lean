/-! insert -/
/-- the reference when a sign has come -/
noncomputable def tCm (a : vH) (l x s : Int) : vH := TT (gCm l x) (tI a l x s) 4
section IN2
variable {h h2 a b : vH} {p q P Q X l x s f t j st r l0 x0 n : Int}
theorem sgX_c : (l0 = l ∧ (x < X ∨ ¬ st = 0 ∧ X = x)) ∧ sgX st l x l0 X = X + 1 ∨ ¬ (l0 = l ∧ (x < X ∨ ¬ st = 0 ∧ X = x)) ∧ sgX st l x l0 X = X := by
  by_cases z : l0 = l ∧ (x < X ∨ ¬ st = 0 ∧ X = x)
  · exact Or.inl ⟨z, if_pos z⟩
  · exact Or.inr ⟨z, if_neg z⟩
theorem cm_o {k : Nat} {r i : Int} (n : ¬ (k = 2 ∧ (r = 283 ∨ r = 284 ∨ r = 295 ∨ r = 296 ∨ r = 299 ∨ r = 306 ∨ r = 309))) : tCm a l x s k r i = a k r i := by
  have ti : tI a l x s k r i = a k r i := tI_o (by omega)
  unfold tCm
  by_cases z : k = 2
  · subst z
    have gi : gCm l x (tI a l x s) r i = a 2 r i := by
      unfold gCm
      rw [if_neg (by omega), if_neg (by omega), if_neg (by omega), if_neg (by omega), if_neg (by omega), ti]
    by_cases y : rgL r
    · rw [TT_L y]
      split
      · exact gi
      · exact ti
    · by_cases w : rgC r
      · rw [TT_C w]
        split
        · exact gi
        · exact ti
      · rw [TT_o (fun u => u.2.elim y w), ti]
  · rw [TT_o (fun u => z u.1), ti]
theorem cm_l {i : Int} : tCm a l x s 2 284 i = if i = l then a 2 284 l + 1 else a 2 284 i := (TT_o (by unfold rgL rgS rgV rgF rgC; decide)).trans tI_l
theorem cm_s {i : Int} : tCm a l x s 2 283 i = if i = 80 * l + x then s else if 80 * l + x < i ∧ i ≤ 80 * l + a 2 284 l then a 2 283 (i - 1) else a 2 283 i := (TT_o (by unfold rgL rgS rgV rgF rgC; decide)).trans tI_s
theorem cm_k {k : Int} (u : 0 ≤ k ∧ k < 24) : tCm a l x s 2 295 k = sgX 1 l x (a 2 294 k) (a 2 295 k) ∧ tCm a l x s 2 296 k = sgX 0 l x (a 2 294 k) (a 2 296 k) ∧ tCm a l x s 2 299 k = sgX 0 l x (a 2 298 k) (a 2 299 k) := by
  have ti : ∀ r, 294 ≤ r → tI a l x s 2 r k = a 2 r k := fun r hr => tI_o (by omega)
  unfold tCm
  refine ⟨?_, ?_, ?_⟩
  · rw [TT_L (Or.inl (by unfold rgS; decide)), if_pos (by omega)]
    show sgX 1 l x (tI a l x s 2 294 k) (tI a l x s 2 295 k) = _
    rw [ti _ (by decide), ti _ (by decide)]
  · rw [TT_L (Or.inl (by unfold rgS; decide)), if_pos (by omega)]
    show sgX 0 l x (tI a l x s 2 294 k) (tI a l x s 2 296 k) = _
    rw [ti _ (by decide), ti _ (by decide)]
  · rw [TT_L (Or.inr (Or.inl (by unfold rgV; decide))), if_pos (by omega)]
    show sgX 0 l x (tI a l x s 2 298 k) (tI a l x s 2 299 k) = _
    rw [ti _ (by decide), ti _ (by decide)]
theorem cm_c (hp : 0 ≤ p ∧ p < 4) : tCm a l x s 2 306 p = sgX 0 l x (a 2 305 p) (a 2 306 p) ∧ tCm a l x s 2 309 p = sgX 0 l x (a 2 308 p) (a 2 309 p) := by
  have ti : ∀ r, 294 ≤ r → tI a l x s 2 r p = a 2 r p := fun r hr => tI_o (by omega)
  unfold tCm
  refine ⟨?_, ?_⟩
  · rw [TT_C (by unfold rgC; decide), if_pos (by omega)]
    show sgX 0 l x (tI a l x s 2 305 p) (tI a l x s 2 306 p) = _
    rw [ti _ (by decide), ti _ (by decide)]
  · rw [TT_C (by unfold rgC; decide), if_pos (by omega)]
    show sgX 0 l x (tI a l x s 2 308 p) (tI a l x s 2 309 p) = _
    rw [ti _ (by decide), ti _ (by decide)]
theorem cm_sx : sx a (tCm a l x s) := sx_tr tI_sx TT_sx
theorem sgX_v (v : 0 ≤ X ∧ X ≤ a 2 284 l0) : 0 ≤ sgX st l x l0 X ∧ sgX st l x l0 X ≤ (if l0 = l then a 2 284 l + 1 else a 2 284 l0) := by
  have c := sgX_c (l := l) (x := x) (X := X) (st := st) (l0 := l0)
  by_cases z : l0 = l
  · rw [if_pos z]
    rw [z] at v c ⊢
    omega
  · rw [if_neg z]
    omega
/-- the lines that an insertion leaves -/
theorem lnE_cm (g : iG a) (hp : 0 ≤ p ∧ p < 4) (hl : 0 ≤ l ∧ l < a 1504 282 0) (hx : 0 ≤ x ∧ x ≤ a 2 284 l) (h80 : a 2 284 l < 80) (j0 : 0 ≤ j) (j1 : j < a 1504 282 0) (n : ¬ j = l) : lnE a (tCm a l x s) p j := by
  have n6 := iG_n6 g p hp.1 hp.2
  have gl := g.1.2.1
  have lj := g.1.2.2.1 j j0 (by omega)
  refine lnE_ed (cm_o (by decide)) (cm_o (by decide)) (cm_o (by decide)) n6.2.1.1 (fun k u v => ?_) (fun k u v => ?_) (fun k u v => ?_) (cm_o (by decide)) (cm_o (by decide)) (by rw [cm_l, if_neg n]) (fun i u v => ?_)
  · have K := cm_k (a := a) (l := l) (x := x) (s := s) (k := k) (by omega)
    rw [cm_o (r := 294) (by decide), K.1, K.2.1]
    refine ⟨Iff.rfl, fun e => ⟨?_, ?_⟩⟩
    · exact if_neg (fun z => n (e.symm.trans z.1))
    · exact if_neg (fun z => n (e.symm.trans z.1))
  · have K := cm_k (a := a) (l := l) (x := x) (s := s) (k := k) (by omega)
    rw [cm_o (r := 298) (by decide), K.2.2, cm_o (r := 300) (by decide)]
    exact ⟨Iff.rfl, fun e => if_neg (fun z => n (e.symm.trans z.1)), rfl⟩
  · rw [cm_o (r := 304) (by decide), cm_o (r := 302) (by decide), cm_o (r := 303) (by decide)]
    exact ⟨rfl, Iff.rfl, Iff.rfl, Iff.rfl⟩
  · rw [cm_s, if_neg (by omega), if_neg (by omega)]
theorem iG_cm (g : iG a) (hl : 0 ≤ l ∧ l < a 1504 282 0) (hx : 0 ≤ x ∧ x ≤ a 2 284 l) (h80 : a 2 284 l < 80) : iG (tCm a l x s) := by
  have el : tCm a l x s 1504 282 0 = a 1504 282 0 := cm_o (by decide)
  have gl := g.1.2.1
  have gn := g.1.2.2.1
  have lv : ∀ i, tCm a l x s 2 284 i = if i = l then a 2 284 l + 1 else a 2 284 i := fun i => cm_l
  refine ⟨⟨shModel_sx cm_sx g.1.1, by rw [el]; exact gl, fun i u v => ?_, fun p u v => ?_⟩, fun p u v => ?_⟩
  · rw [lv]
    have := gn i u v
    split <;> omega
  · obtain ⟨⟨o1, o2, o3, o4, o5, o6, o7⟩, w1, w2⟩ := g.1.2.2.2 p u v
    have S := (g.2 p u v).2.1
    unfold mOKp
    rw [cm_o (r := 293) (by decide), cm_o (r := 297) (by decide), cm_o (r := 301) (by decide), cm_o (r := 286) (by decide), cm_o (r := 287) (by decide)]
    refine ⟨⟨o1, o2, o3, o4, o5, o6, fun k s1 t1 => ?_⟩, w1, w2⟩
    obtain ⟨s2, s3, s4, s5, s6⟩ := S k s1 t1
    have K := cm_k (a := a) (l := l) (x := x) (s := s) (k := k) (by omega)
    rw [K.2.1]
    have V := sgX_v (a := a) (l := l) (x := x) (st := 0) (l0 := a 2 294 k) (X := a 2 296 k) ⟨by omega, s6⟩
    have L := gn (a 2 294 k) s2 (by omega)
    refine ⟨V.1, Int.le_trans V.2 ?_⟩
    split <;> omega
  · obtain ⟨f1, f2, f3, f4, f5, f6⟩ := g.2 p u v
    obtain ⟨⟨o1, o2, o3, o4, o5, o6, o7⟩, w1, w2⟩ := g.1.2.2.2 p u v
    have C := cm_c (a := a) (l := l) (x := x) (s := s) (p := p) ⟨u, v⟩
    rw [cm_o (r := 293) (by decide), cm_o (r := 297) (by decide), cm_o (r := 301) (by decide), cm_o (r := 288) (by decide), cm_o (r := 305) (by decide), cm_o (r := 308) (by decide), C.1, C.2, el]
    refine ⟨fun k s1 t1 => ?_, fun k s1 t1 => ?_, fun k s1 t1 => ?_, ?_, ?_, f6⟩
    · rw [cm_o (r := 302) (by decide), cm_o (r := 303) (by decide)]
      exact f1 k s1 t1
    · obtain ⟨s2, s3, s4, s5, s6⟩ := f2 k s1 t1
      have K := cm_k (a := a) (l := l) (x := x) (s := s) (k := k) (by omega)
      rw [cm_o (r := 294) (by decide), K.1, K.2.1, lv]
      have V := sgX_v (a := a) (l := l) (x := x) (st := 0) (l0 := a 2 294 k) (X := a 2 296 k) ⟨by omega, s6⟩
      have c1 := sgX_c (l := l) (x := x) (X := a 2 295 k) (st := 1) (l0 := a 2 294 k)
      have c2 := sgX_c (l := l) (x := x) (X := a 2 296 k) (st := 0) (l0 := a 2 294 k)
      exact ⟨s2, s3, by omega, by omega, V.2⟩
    · obtain ⟨s2, s3, s4, s5⟩ := f3 k s1 t1
      have K := cm_k (a := a) (l := l) (x := x) (s := s) (k := k) (by omega)
      rw [cm_o (r := 298) (by decide), K.2.2, lv]
      have V := sgX_v (a := a) (l := l) (x := x) (st := 0) (l0 := a 2 298 k) (X := a 2 299 k) ⟨s4, s5⟩
      exact ⟨s2, s3, V.1, V.2⟩
    · rw [lv]
      have V := sgX_v (a := a) (l := l) (x := x) (st := 0) (l0 := a 2 305 p) (X := a 2 306 p) ⟨f4.2.2.1, f4.2.2.2⟩
      exact ⟨f4.1, f4.2.1, V.1, V.2⟩
    · rw [lv]
      have V := sgX_v (a := a) (l := l) (x := x) (st := 0) (l0 := a 2 308 p) (X := a 2 309 p) ⟨f5.2.2.1, f5.2.2.2⟩
      exact ⟨f5.1, f5.2.1, V.1, V.2⟩
theorem iH_cm (g : iG a) (i : iH a) (hs : 0 ≤ s ∧ s ≤ 127) (hl : 0 ≤ l ∧ l < a 1504 282 0) (hx : 0 ≤ x ∧ x ≤ a 2 284 l) (h80 : a 2 284 l < 80) : iH (tCm a l x s) := by
  have R : ∀ r : Int, ¬ (r = 283 ∨ r = 284 ∨ r = 295 ∨ r = 296 ∨ r = 299 ∨ r = 306 ∨ r = 309) → tCm a l x s 2 r = a 2 r := fun r hr => funext (fun _ => cm_o (fun z => hr z.2))
  obtain ⟨i1, i2, i3, i4, i5, i6, i7⟩ := i
  have gl := g.1.2.1
  have gn := g.1.2.2.1
  unfold iH
  rw [R 289 (by decide), R 290 (by decide), R 291 (by decide), R 292 (by decide), R 310 (by decide), R 334 (by decide), R 335 (by decide), R 329 (by decide), R 327 (by decide), cm_o (k := 1559) (by decide), cm_o (k := 1504) (by decide)]
  refine ⟨i1, i2, i3, i4, i5, i6, fun m y u v w z => ?_⟩
  rw [cm_l] at z
  rw [cm_s]
  have gm := gn m u (by omega)
  by_cases c : m = l
  · rw [if_pos c] at z
    rw [c]
    by_cases c1 : 80 * l + y = 80 * l + x
    · rw [if_pos c1]; exact hs
    · rw [if_neg c1]
      by_cases c2 : 80 * l + x < 80 * l + y ∧ 80 * l + y ≤ 80 * l + a 2 284 l
      · rw [if_pos c2, show 80 * l + y - 1 = 80 * l + (y - 1) by omega]
        exact i7 l (y - 1) hl.1 hl.2 (by omega) (by omega)
      · rw [if_neg c2]
        exact i7 l y hl.1 hl.2 w (by omega)
  · rw [if_neg c] at z
    rw [if_neg (by omega), if_neg (by omega)]
    exact i7 m y u v w z
theorem iV_cm (V : iV n a) (hx : 0 ≤ x ∧ x ≤ a 2 284 l) (hn : 0 ≤ n) : iV n (tCm a l x s) := by
  intro k u v
  obtain ⟨v1, v2, v3, v4, v5, v6, v7⟩ := V k u v
  have K := cm_k (a := a) (l := l) (x := x) (s := s) (k := k) ⟨u, v⟩
  rw [cm_o (r := 294) (by decide), cm_o (r := 298) (by decide), cm_o (r := 302) (by decide), cm_o (r := 303) (by decide), cm_o (k := 1504) (by decide), K.1, K.2.1, K.2.2, cm_l, cm_l]
  have V1 := sgX_v (a := a) (l := l) (x := x) (st := 1) (l0 := a 2 294 k) (X := a 2 295 k) v2
  have V3 := sgX_v (a := a) (l := l) (x := x) (st := 0) (l0 := a 2 298 k) (X := a 2 299 k) v5
  have c2 := sgX_c (l := l) (x := x) (X := a 2 296 k) (st := 0) (l0 := a 2 294 k)
  refine ⟨v1, V1, ⟨by omega, ?_⟩, v4, V3, v6, v7⟩
  by_cases z : a 2 294 k = l
  · rw [if_pos z]
    rw [z] at v3 c2 ⊢
    omega
  · rw [if_neg z]
    omega
theorem iM_cm (m : iM a) : iM (tCm a l x s) := fun i u v => by
  rw [cm_o (r := 285) (by decide)]
  rw [cm_o (k := 1504) (by decide)] at v
  exact m i u v
theorem iC_cm (m : iC a) : iC (tCm a l x s) := fun i u v => by
  rw [cm_o (r := 304) (by decide)]
  exact m i u v
def sgOk (s : Int) : Prop := ¬ (s < 32) ∧ ¬ (126 < s) ∨ s = 9
noncomputable def kIn (a : vH) (l x s : Int) : Int := if 0 ≤ l ∧ l < a 1504 282 0 then @ite _ ((0 ≤ x ∧ x ≤ a 2 284 l) ∧ sgOk s) (Classical.propDecidable _) (if a 2 284 l = 80 then 3 else 0) 2 else 1
theorem kIn_0 : kIn a l x s = 0 ↔ (0 ≤ l ∧ l < a 1504 282 0) ∧ ((0 ≤ x ∧ x ≤ a 2 284 l) ∧ sgOk s) ∧ ¬ a 2 284 l = 80 := by
  unfold kIn
  by_cases z1 : 0 ≤ l ∧ l < a 1504 282 0
  · by_cases z2 : (0 ≤ x ∧ x ≤ a 2 284 l) ∧ sgOk s
    · by_cases z3 : a 2 284 l = 80
      · rw [if_pos z1, if_pos z2, if_pos z3]; exact ⟨fun w => absurd w (by decide), fun w => absurd z3 w.2.2⟩
      · rw [if_pos z1, if_pos z2, if_neg z3]; exact ⟨fun _ => ⟨z1, z2, z3⟩, fun _ => rfl⟩
    · rw [if_pos z1, if_neg z2]; exact ⟨fun w => absurd w (by decide), fun w => absurd w.2.1 z2⟩
  · rw [if_neg z1]; exact ⟨fun w => absurd w (by decide), fun w => absurd w.1 z1⟩
theorem sgOk_in (z : sgOk s) : 0 ≤ s ∧ s ≤ 127 := by
  unfold sgOk at z
  omega
noncomputable def tIn (a : vH) (l x s : Int) : vH := if kIn a l x s = 0 then tCm (th 0 a) l x s else th (kIn a l x s) a
theorem C_chkSign : (sgOk s → vcl mX12_checkSign [(1, 3), (0, s)] h = some (.inl none, h)) ∧ (¬ sgOk s → vcl mX12_checkSign [(1, 3), (0, s)] h = some (.inr "java/lang/IllegalArgumentException", vexc h)) := by
  unfold sgOk
  constructor
  · intro z
    refine (show _ = _ from rX12_checkSign_0).trans ?_
    by_cases y : s = 9
    · rw [if_pos y]
    · rw [if_neg y, if_neg (by omega), if_pos (by omega)]
  · intro z
    refine (show _ = _ from rX12_checkSign_0).trans ?_
    rw [if_neg (by omega)]
    by_cases y : s < 32
    · rw [if_pos y]
    · rw [if_neg y, if_neg (by omega)]
theorem Cq_insert (c : cAll h a) (g : iG a) (V : iV n a) (hn : 0 ≤ n ∧ n ≤ 9000) : cOut h (tIn a l x s) (kIn a l x s) (a 2 284 l + 1) e3 (vcl mX12_insert [(1, 3), (0, l), (0, x), (0, s)] h) := by
  unfold tIn
  by_cases z : 0 ≤ l ∧ l < a 1504 282 0
  · obtain ⟨d1, d2, d3⟩ := C_lineOf c z
    have gl := g.1.2.1
    have l80 := g.1.2.2.1 l z.1 (by omega)
    have e1 := (rX12_insert_0 (x1 := l) (x2 := x) (x3 := s) c.1).trans ((vret_v d1).trans (rX12_insert_5 d2 c.1))
    rw [show h 601 (h 2 5 l) 0 = a 2 284 l from d3] at e1
    by_cases y : 0 ≤ x ∧ x ≤ a 2 284 l
    · have e2 := e1.trans ((vret_n (C_chkRange.1 y)).trans (rX12_insert_18 c.1))
      by_cases w : sgOk s
      · have e3' := e2.trans ((vret_n (C_chkSign.1 w)).trans (rX12_insert_23 d2 c.1))
        rw [show h 601 (h 2 5 l) 0 = a 2 284 l from d3] at e3'
        by_cases v : a 2 284 l = 80
        · have k3 : kIn a l x s = 3 := by unfold kIn; rw [if_pos z, if_pos ⟨y, w⟩, if_pos v]
          rw [k3, if_neg (by decide)]
          rw [if_neg (by omega)] at e3'
          exact cO_eq (e3'.trans (vret_x (C_chkState.2 rfl) rfl)) (cO_x (cAll_th c) cR_rf (by decide) rfl)
        · have k0 : kIn a l x s = 0 := kIn_0.mpr ⟨z, ⟨y, w⟩, v⟩
          rw [k0, if_pos rfl]
          rw [if_pos (by omega)] at e3'
          have c0 : cAll h (th 0 a) := cAll_th c
          have g0 : iG (th 0 a) := iG_tk g
          have V0 : iV n (th 0 a) := V
          have y0 : 0 ≤ x ∧ x ≤ th 0 a 2 284 l := y
          have z0 : 0 ≤ l ∧ l < th 0 a 1504 282 0 := z
          have v0 : th 0 a 2 284 l < 80 := show a 2 284 l < 80 by have : ¬ a 2 284 l = 80 := v; omega
          obtain ⟨h2, a1, a2, a3, a5, a4⟩ := C_putIn (s := s) (cW_of c0) (iG_n6 g0) (iV_bd g0 V0 hn) z0 y0 v0 (fun i u v => (g0.1.2.2.1 i u v).2)
          have el : tCm (th 0 a) l x s 1504 282 0 = th 0 a 1504 282 0 := cm_o (by decide)
          have A := cAll_fgd a2 c0 el a4 (fun p i u v s1 t1 n1 => lnE_cm g0 ⟨u, v⟩ z0 y0 v0 s1 t1 n1)
          obtain ⟨f1, f2, f3⟩ := C_lineOf A (l := l) (by rw [show TT (gCm l x) (tI (th 0 a) l x s) 4 1504 282 0 = th 0 a 1504 282 0 from el]; exact z0)
          rw [a5] at f2 f3
          have f4 : h2 601 (h 2 5 l) 0 = a 2 284 l + 1 := by
            refine Eq.trans f3 ?_
            have := cm_l (a := th 0 a) (l := l) (x := x) (s := s) (i := l)
            rw [if_pos rfl] at this
            exact this
          refine cO_eq (e3'.trans ((vret_n (C_chkState.1 (by decide))).trans ((rX12_insert_42 c.1).trans ((vret_n a1).trans (rX12_insert_49 f2))))) ?_
          rw [f4]
          exact cO_v A (eF_kR a3)
      · have k2 : kIn a l x s = 2 := by unfold kIn; rw [if_pos z, if_neg (fun u => w u.2)]
        rw [k2, if_neg (by decide)]
        exact cO_eq (e2.trans (vret_x (C_chkSign.2 w) rfl)) (cO_x (cAll_th c) cR_rf (by decide) rfl)
    · have k2 : kIn a l x s = 2 := by unfold kIn; rw [if_pos z, if_neg (fun u => y u.1)]
      rw [k2, if_neg (by decide)]
      exact cO_eq (e1.trans (vret_x (C_chkRange.2 y) rfl)) (cO_x (cAll_th c) cR_rf (by decide) rfl)
  · have k1 : kIn a l x s = 1 := if_neg z
    rw [k1, if_neg (by decide)]
    exact cO_eq ((rX12_insert_0 c.1).trans (vret_x (C_lineOfX c z) rfl)) (cO_x (cAll_th c) cR_rf (by decide) rfl)
end IN2

