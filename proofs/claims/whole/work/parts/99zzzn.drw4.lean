/-! draw: the reference's call -/
noncomputable def kDw (a : vH) (p : Int) : Int := if 0 ≤ p ∧ p < 4 then (if a 2 289 p = 0 then 2 else 0) else 1
noncomputable def tDw (a : vH) (p : Int) : vH := if kDw a p = 0 then tDr (th 0 a) p (toR a p) else th (kDw a p) a
noncomputable def vDw (a : vH) (p : Int) : Int := (bdS (th 0 a) p (toR a p) 23).2
section DR4
variable {h h1 h2 a b : vH} {p t l x r k c K J n : Int}
theorem kDw_0 : kDw a p = 0 ↔ (0 ≤ p ∧ p < 4) ∧ ¬ a 2 289 p = 0 := by
  unfold kDw
  by_cases z1 : 0 ≤ p ∧ p < 4
  · by_cases z2 : a 2 289 p = 0
    · rw [if_pos z1, if_pos z2]; exact ⟨fun w => absurd w (by decide), fun w => absurd z2 w.2⟩
    · rw [if_pos z1, if_neg z2]; exact ⟨fun _ => ⟨z1, z2⟩, fun _ => rfl⟩
  · rw [if_neg z1]; exact ⟨fun w => absurd w (by decide), fun w => absurd w.1 z1⟩
theorem dr_o {k : Nat} {i : Int} (n : ¬ (k = 2 ∧ 326 ≤ r ∧ r ≤ 330)) : tDr a p t k r i = a k r i := (if_neg (by omega)).trans (kpR_o (by omega))
theorem dr_sx : sx a (tDr a p t) := sx_tr kpR_sx (sx_up rfl sx_rf)
theorem iG_dr (g : iG a) : iG (tDr a p t) := iG_a ⟨fun r i e e2 => dr_o (by omega), dr_o (by decide), dr_sx⟩ g (fun q u v => by
  obtain ⟨-, -, -, g4, g5, g6⟩ := g.2 q u v
  rw [dr_o (r := 305) (by decide), dr_o (r := 306) (by decide), dr_o (r := 308) (by decide), dr_o (r := 309) (by decide)]
  exact ⟨g4, g5⟩)
theorem dr_329 : tDr a p t 2 329 x = if x = p then a 2 310 p else a 2 329 x := by
  refine (vup_r (by decide)).trans ?_
  unfold kpR
  by_cases z : x = p
  · rw [if_pos z, if_pos ⟨rfl, rfl, z⟩]
  · rw [if_neg z, if_neg (fun w => z w.2.2), if_neg (by omega), if_neg (by omega), if_neg (by omega)]
theorem dr_327 : tDr a p t 2 327 x = if 24 * p ≤ x ∧ x < 24 * p + a 2 310 p then dN a p t (x - 24 * p) else a 2 327 x := by
  refine (vup_r (by decide)).trans ?_
  unfold kpR
  rw [if_neg (by omega)]
  by_cases z : 24 * p ≤ x ∧ x < 24 * p + a 2 310 p
  · rw [if_pos z, if_pos ⟨rfl, rfl, z⟩]
  · rw [if_neg z, if_neg (fun w => z w.2.2), if_neg (by omega), if_neg (by omega)]
theorem dr_328 : tDr a p t 2 328 x = if 24 * p ≤ x ∧ x < 24 * p + a 2 310 p then dM a p t (x - 24 * p) else a 2 328 x := by
  refine (vup_r (by decide)).trans ?_
  unfold kpR
  rw [if_neg (by omega), if_neg (by omega)]
  by_cases z : 24 * p ≤ x ∧ x < 24 * p + a 2 310 p
  · rw [if_pos z, if_pos ⟨rfl, rfl, z⟩]
  · rw [if_neg z, if_neg (fun w => z w.2.2), if_neg (by omega)]
theorem dr_326 (hk : 0 ≤ k ∧ k < a 2 310 p) (hc : 0 ≤ c ∧ c < 132) (hd : c < dN a p t k) : tDr a p t 2 326 (132 * (24 * p + k) + c) = pkV a p (t + k) c := by
  refine (vup_r (by decide)).trans ?_
  unfold kpR
  have q : (132 * (24 * p + k) + c - 3168 * p) / 132 = k ∧ (132 * (24 * p + k) + c - 3168 * p) % 132 = c := by omega
  rw [if_neg (by omega), if_neg (by omega), if_neg (by omega), q.1, q.2, if_pos ⟨rfl, rfl, by omega, Or.inl ⟨hk.2, hd⟩⟩]
theorem dr_326o (hq : 0 ≤ x ∧ x < 4) (n : ¬ x = p) (hk : 0 ≤ k ∧ k < 24) (hc : 0 ≤ c ∧ c < 132) (h24 : a 2 310 p ≤ 24) : tDr a p t 2 326 (132 * (24 * x + k) + c) = a 2 326 (132 * (24 * x + k) + c) := by
  refine (vup_r (by decide)).trans ?_
  unfold kpR
  rw [if_neg (by omega), if_neg (by omega), if_neg (by omega), if_neg (by omega)]
theorem iH_dr (g : iG a) (i : iH a) (hp : 0 ≤ p ∧ p < 4) (ht : 0 ≤ t) (hH : 0 ≤ a 2 310 p ∧ a 2 310 p ≤ 24) : iH (tDr a p t) := by
  have R : ∀ r : Int, ¬ (326 ≤ r ∧ r ≤ 330) → tDr a p t 2 r = a 2 r := fun r hr => funext (fun _ => dr_o (fun w => hr w.2))
  obtain ⟨i1, i2, i3, i4, i5, i6, i7⟩ := i
  unfold iH
  rw [R 289 (by decide), R 290 (by decide), R 291 (by decide), R 292 (by decide), R 310 (by decide), R 334 (by decide), R 335 (by decide), R 284 (by decide), R 283 (by decide), dr_o (k := 1559) (by decide), dr_o (k := 1504) (by decide)]
  refine ⟨i1, i2, i3, i4, i5, fun q u v => ?_, i7⟩
  obtain ⟨d1, d2⟩ := i6 q u v
  rw [dr_329]
  by_cases z : q = p
  · rw [if_pos z]
    refine ⟨hH, fun k s w => ?_⟩
    rw [dr_327, z, if_pos (by omega), show 24 * p + k - 24 * p = k by omega]
    exact dN_in g hp ht s
  · rw [if_neg z]
    refine ⟨d1, fun k s w => ?_⟩
    rw [dr_327, if_neg (by omega)]
    exact d2 k s w
theorem toR_th : toR (th 0 a) p = toR a p := toR_eq (eqA_sT (a := a) (b := th 0 a) fine_F).1 (eqT_sT fine_F)
theorem M_search (g : iG h) (i : iH h) (hp : 0 ≤ p ∧ p < 4) (ht : 0 ≤ t) (hH : 0 ≤ h 2 310 p ∧ h 2 310 p ≤ 24) (F : mF sA2 sT2 h h1) (T : told h1 h p t (h 2 310 p)) {x2 : Int} : ∃ v6 v7, vrun mX13_draw 41 [(1, 282), (0, p), (0, x2), (9, 0), (9, 0), (9, 0), (9, 0), (9, 0)] [] h1 = vret vrun mX13_draw 129 [(1, 282), (0, p), (0, x2), (0, (bdS h p t 23).1), (0, (bdS h p t 23).2), (0, 24), v6, v7] [] (vcl mX13_keepsRows [(1, 282), (0, p)] h1) := by
  have sM := (iG_m2 F g).1.1
  have loop : ∀ (f k : Nat) (v6 v7 : vv), k + f = 23 → ∃ w6 w7, vrun mX13_draw 54 [(1, 282), (0, p), (0, x2), (0, (bdS h p t k).1), (0, (bdS h p t k).2), (0, (k : Int) + 1), v6, v7] [] h1 = vret vrun mX13_draw 129 [(1, 282), (0, p), (0, x2), (0, (bdS h p t 23).1), (0, (bdS h p t 23).2), (0, 24), w6, w7] [] (vcl mX13_keepsRows [(1, 282), (0, p)] h1) := by
    intro f
    induction f with
    | zero =>
      intro k v6 v7 hk
      have ek : k = 23 := by omega
      subst ek
      exact ⟨v6, v7, (rX13_draw_54 sM).trans (if_pos (by decide))⟩
    | succ f ih =>
      intro k v6 v7 hk
      have d1 := M_toDraw g i hp ht hH F T (by_ := (k : Int) + 1) ⟨by omega, by omega⟩
      have d2 := M_toDraw g i hp ht hH F T (by_ := -((k : Int) + 1)) ⟨by omega, by omega⟩
      have a1 := (rX13_draw_64 (x1 := p) (x2 := x2) (x3 := (bdS h p t k).1) (x4 := (bdS h p t k).2) (x5 := (k : Int) + 1) (x6 := 1) (v7 := v7) (by omega) (by omega) (by omega) (by omega) sM).trans (if_neg (by decide))
      rw [show (1 : Int) * ((k : Int) + 1) = (k : Int) + 1 by omega] at a1
      have a2 := rX13_draw_80 (x1 := p) (x2 := x2) (x3 := (bdS h p t k).1) (x4 := (bdS h p t k).2) (x5 := (k : Int) + 1) (x6 := 1) (v7 := v7) (y0 := tD h p t ((k : Int) + 1) (h 2 310 p).toNat) (h := h1) (by omega) (by omega) (by omega) (by omega)
      rw [show (1 : Int) * ((k : Int) + 1) = (k : Int) + 1 by omega, show (1 : Int) + (-2) = -1 by decide] at a2
      have e1 : (if (bdS h p t k).2 ≤ tD h p t ((k : Int) + 1) (h 2 310 p).toNat then (bdS h p t k).1 else (k : Int) + 1) = (bdU (bdS h p t k) ((k : Int) + 1) (tD h p t ((k : Int) + 1) (h 2 310 p).toNat)).1 := rfl
      have e2 : (if (bdS h p t k).2 ≤ tD h p t ((k : Int) + 1) (h 2 310 p).toNat then (bdS h p t k).2 else tD h p t ((k : Int) + 1) (h 2 310 p).toNat) = (bdU (bdS h p t k) ((k : Int) + 1) (tD h p t ((k : Int) + 1) (h 2 310 p).toNat)).2 := rfl
      rw [e1, e2] at a2
      generalize hq : bdU (bdS h p t k) ((k : Int) + 1) (tD h p t ((k : Int) + 1) (h 2 310 p).toNat) = q at a2
      have a3 := (rX13_draw_64 (x1 := p) (x2 := x2) (x3 := q.1) (x4 := q.2) (x5 := (k : Int) + 1) (x6 := -1) (v7 := (0, tD h p t ((k : Int) + 1) (h 2 310 p).toNat)) (by omega) (by omega) (by omega) (by omega) sM).trans (if_neg (by decide))
      rw [show (-1 : Int) * ((k : Int) + 1) = -((k : Int) + 1) by omega] at a3
      have a4 := rX13_draw_80 (x1 := p) (x2 := x2) (x3 := q.1) (x4 := q.2) (x5 := (k : Int) + 1) (x6 := -1) (v7 := (0, tD h p t ((k : Int) + 1) (h 2 310 p).toNat)) (y0 := tD h p t (-((k : Int) + 1)) (h 2 310 p).toNat) (h := h1) (by omega) (by omega) (by omega) (by omega)
      rw [show (-1 : Int) * ((k : Int) + 1) = -((k : Int) + 1) by omega, show (-1 : Int) + (-2) = -3 by decide] at a4
      have f1 : (if q.2 ≤ tD h p t (-((k : Int) + 1)) (h 2 310 p).toNat then q.1 else -((k : Int) + 1)) = (bdS h p t (k + 1)).1 := by
        rw [← hq]
        rfl
      have f2 : (if q.2 ≤ tD h p t (-((k : Int) + 1)) (h 2 310 p).toNat then q.2 else tD h p t (-((k : Int) + 1)) (h 2 310 p).toNat) = (bdS h p t (k + 1)).2 := by
        rw [← hq]
        rfl
      rw [f1, f2] at a4
      have a5 := (rX13_draw_64 (x1 := p) (x2 := x2) (x3 := (bdS h p t (k + 1)).1) (x4 := (bdS h p t (k + 1)).2) (x5 := (k : Int) + 1) (x6 := -3) (v7 := (0, tD h p t (-((k : Int) + 1)) (h 2 310 p).toNat)) (by omega) (by omega) (by omega) (by omega) sM).trans (if_pos (by decide))
      obtain ⟨w6, w7, q1⟩ := ih (k + 1) (0, -3) (0, tD h p t (-((k : Int) + 1)) (h 2 310 p).toNat) (by omega)
      rw [show (((k + 1 : Nat)) : Int) = (k : Int) + 1 by omega] at q1
      exact ⟨w6, w7, (rX13_draw_54 sM).trans ((if_neg (by omega)).trans (a1.trans ((vret_v d1).trans (a2.trans (a3.trans ((vret_v d2).trans (a4.trans (a5.trans q1))))))))⟩
  have d0 := M_toDraw g i hp ht hH F T (by_ := 0) ⟨by omega, by omega⟩
  obtain ⟨w6, w7, q1⟩ := loop 23 0 (9, 0) (9, 0) (by decide)
  exact ⟨w6, w7, (rX13_draw_41 sM).trans ((vret_v d0).trans (rX13_draw_49.trans q1))⟩
theorem Mq_draw (x0 : iA h) (V : iVs h) : mOut (tDw h p) (kDw h p) (vDw h p) (vcl mX13_draw [(1, 282), (0, p)] h) := by
  have g := x0.1
  have e0 := rX13_draw_0 (x1 := p) (h := h) g.1.1 (by omega) (by omega)
  have ek : (if ¬ (p < 0) ∧ ¬ (3 < p) then (if h 2 289 p = 0 then (2 : Int) else 0) else 1) = kDw h p := by
    unfold kDw
    by_cases z1 : 0 ≤ p ∧ p < 4
    · rw [if_pos (by omega), if_pos z1]
    · rw [if_neg (by omega), if_neg z1]
  rw [ek] at e0
  unfold tDw
  by_cases k : kDw h p = 0
  · obtain ⟨z1, z2⟩ := kDw_0.mp k
    rw [k] at e0 ⊢
    rw [if_pos rfl]
    have x1 : iA (th 0 h) := iA_tk x0
    have V0 : iVs (th 0 h) := V
    have hH : 1 ≤ th 0 h 2 310 p ∧ th 0 h 2 310 p ≤ 24 := hO x1.2.1 z1 z2
    have t0 : 0 ≤ toR h p := (to_in g z1).1
    obtain ⟨h2, a1, a2, a3, a4⟩ := M_tellsRows x1.1 x1.2.1 V0 z1 ⟨by omega, hH.2⟩
    rw [toR_th] at a3
    obtain ⟨v6, v7, s1⟩ := M_search (x2 := if ¬ (p < 0) ∧ ¬ (3 < p) then 1 else 0) x1.1 x1.2.1 z1 t0 ⟨by omega, hH.2⟩ a2 a3
    obtain ⟨h3, k1, k2, k3⟩ := M_keepsRows x1.1 z1 t0 ⟨by omega, hH.2⟩ a2 a3
    have sM3 := shModel_sx (sx_tr kpR_sx (mF_sx k2 (by decide))) x1.1.1.1
    have e5 := e0.trans ((fine1 g.1.1).trans ((rX13_draw_31 x1.1.1.1).trans ((if_neg (by decide)).trans ((vret_n a1).trans (s1.trans ((vret_n k1).trans (rX13_draw_132 sM3 z1.1 z1.2)))))))
    exact ⟨_, _, e5, mF_vv k2, (vup_k (by decide)).trans (k3.trans (a4.trans vup_s)), fun _ => rfl⟩
  · rw [if_neg k]
    exact mO_eq (e0.trans ((fine0 g.1.1 k).trans ((rX13_draw_31 (iG_th g).1.1).trans (if_pos rfl)))) (mO_t mF_rf vup_s (fun w => absurd w k))
theorem iX_draw (x0 : iA a) : iA (tDw a p) := by
  unfold tDw
  by_cases k : kDw a p = 0
  · obtain ⟨z1, z2⟩ := kDw_0.mp k
    rw [if_pos k]
    have x1 : iA (th 0 a) := iA_tk x0
    have hH : 1 ≤ th 0 a 2 310 p ∧ th 0 a 2 310 p ≤ 24 := hO x1.2.1 z1 z2
    have t0 : 0 ≤ toR a p := (to_in x0.1 z1).1
    refine ⟨iG_dr x1.1, iH_dr x1.1 x1.2.1 z1 t0 ⟨by omega, hH.2⟩, fun l u v => ?_, fun q u v => ?_⟩
    · rw [dr_o (k := 1504) (by decide)] at v
      rw [dr_o (r := 285) (by decide)]
      exact x1.2.2.1 l u v
    · rw [dr_o (r := 304) (by decide)]
      exact x1.2.2.2 q u v
  · rw [if_neg k]; exact iA_tk x0
theorem iV_draw (V : iV n a) : iV n (tDw a p) := by
  unfold tDw
  split
  · intro k u v
    have e : ∀ r i : Int, ¬ (326 ≤ r ∧ r ≤ 330) → tDr (th 0 a) p (toR a p) 2 r i = a 2 r i := fun r i w => dr_o (fun z => w z.2)
    rw [e 294 _ (by decide), e 295 _ (by decide), e 296 _ (by decide), e 298 _ (by decide), e 299 _ (by decide), e 302 _ (by decide), e 303 _ (by decide), e 284 _ (by decide), e 284 _ (by decide), show tDr (th 0 a) p (toR a p) 1504 282 0 = a 1504 282 0 from dr_o (by decide)]
    exact V k u v
  · exact V
theorem rZ_draw : rZ a (tDw a p) := by
  unfold tDw
  split
  · exact rZ_tr rZ_th (fun k r i m => dr_o (by omega))
  · exact rZ_th
end DR4
