/-! draw: the reference's call -/
noncomputable def kDw (a : vH) (p : Int) : Int := if 0 ≤ p ∧ p < 4 then (if a 2 289 p = 0 then 2 else 0) else 1
noncomputable def tDw (a : vH) (p : Int) : vH := if kDw a p = 0 then tDr (th 0 a) p (toR a p) else th (kDw a p) a
noncomputable def vDw (a : vH) (p : Int) : Int := (bdS (th 0 a) p (toR a p) 23).2
section DR4
variable {h h1 h2 a b : vH} {p t l x r k c K J n : Int}
theorem kDw_0 : kDw a p = 0 ↔ (0 ≤ p ∧ p < 4) ∧ ¬ a 2 289 p = 0 := by
  unfold kDw
  by_cases z1 : 0 ≤ p ∧ p < 4
  · by_cases z2 : a 2 289 p = 0
    · rw [if_pos z1, if_pos z2]; exact ⟨fun w => absurd w (by decide), fun w => absurd z2 w.2⟩
    · rw [if_pos z1, if_neg z2]; exact ⟨fun _ => ⟨z1, z2⟩, fun _ => rfl⟩
  · rw [if_neg z1]; exact ⟨fun w => absurd w (by decide), fun w => absurd w.1 z1⟩
theorem dr_o {k : Nat} {i : Int} (n : ¬ (k = 2 ∧ 326 ≤ r ∧ r ≤ 330)) : tDr a p t k r i = a k r i := (if_neg (by omega)).trans (kpR_o (by omega))
theorem dr_sx : sx a (tDr a p t) := sx_tr kpR_sx (sx_up rfl sx_rf)
theorem iG_dr (g : iG a) : iG (tDr a p t) := iG_a ⟨fun r i e e2 => dr_o (by omega), dr_o (by decide), dr_sx⟩ g (fun q u v => by
  obtain ⟨-, -, -, g4, g5, g6⟩ := g.2 q u v
  rw [dr_o (r := 305) (by decide), dr_o (r := 306) (by decide), dr_o (r := 308) (by decide), dr_o (r := 309) (by decide)]
  exact ⟨g4, g5⟩)
theorem dr_329 : tDr a p t 2 329 x = if x = p then a 2 310 p else a 2 329 x := by
  refine (vup_r (by decide)).trans ?_
  unfold kpR
  by_cases z : x = p
  · rw [if_pos z, if_pos ⟨rfl, rfl, z⟩]
  · rw [if_neg z, if_neg (fun w => z w.2.2), if_neg (by omega), if_neg (by omega), if_neg (by omega)]
theorem dr_327 : tDr a p t 2 327 x = if 24 * p ≤ x ∧ x < 24 * p + a 2 310 p then dN a p t (x - 24 * p) else a 2 327 x := by
  refine (vup_r (by decide)).trans ?_
  unfold kpR
  rw [if_neg (by omega)]
  by_cases z : 24 * p ≤ x ∧ x < 24 * p + a 2 310 p
  · rw [if_pos z, if_pos ⟨rfl, rfl, z⟩]
  · rw [if_neg z, if_neg (fun w => z w.2.2), if_neg (by omega), if_neg (by omega)]
theorem dr_328 : tDr a p t 2 328 x = if 24 * p ≤ x ∧ x < 24 * p + a 2 310 p then dM a p t (x - 24 * p) else a 2 328 x := by
  refine (vup_r (by decide)).trans ?_
  unfold kpR
  rw [if_neg (by omega), if_neg (by omega)]
  by_cases z : 24 * p ≤ x ∧ x < 24 * p + a 2 310 p
  · rw [if_pos z, if_pos ⟨rfl, rfl, z⟩]
  · rw [if_neg z, if_neg (fun w => z w.2.2), if_neg (by omega)]
theorem dr_326 (hk : 0 ≤ k ∧ k < a 2 310 p) (hc : 0 ≤ c ∧ c < 132) (hd : c < dN a p t k) : tDr a p t 2 326 (132 * (24 * p + k) + c) = pkV a p (t + k) c := by
  refine (vup_r (by decide)).trans ?_
  unfold kpR
  have q : (132 * (24 * p + k) + c - 3168 * p) / 132 = k ∧ (132 * (24 * p + k) + c - 3168 * p) % 132 = c := by omega
  rw [if_neg (by omega), if_neg (by omega), if_neg (by omega), q.1, q.2, if_pos ⟨rfl, rfl, by omega, Or.inl ⟨hk.2, hd⟩⟩]
theorem dr_326o (hq : 0 ≤ x ∧ x < 4) (n : ¬ x = p) (hk : 0 ≤ k ∧ k < 24) (hc : 0 ≤ c ∧ c < 132) (h24 : a 2 310 p ≤ 24) : tDr a p t 2 326 (132 * (24 * x + k) + c) = a 2 326 (132 * (24 * x + k) + c) := by
  refine (vup_r (by decide)).trans ?_
  unfold kpR
  rw [if_neg (by omega), if_neg (by omega), if_neg (by omega), if_neg (by omega)]
theorem iH_dr (g : iG a) (i : iH a) (hp : 0 ≤ p ∧ p < 4) (ht : 0 ≤ t) (hH : 0 ≤ a 2 310 p ∧ a 2 310 p ≤ 24) : iH (tDr a p t) := by
  have R : ∀ r : Int, ¬ (326 ≤ r ∧ r ≤ 330) → tDr a p t 2 r = a 2 r := fun r hr => funext (fun _ => dr_o (fun w => hr w.2))
  obtain ⟨i1, i2, i3, i4, i5, i6, i7⟩ := i
  unfold iH
  rw [R 289 (by decide), R 290 (by decide), R 291 (by decide), R 292 (by decide), R 310 (by decide), R 334 (by decide), R 335 (by decide), R 284 (by decide), R 283 (by decide), dr_o (k := 1559) (by decide), dr_o (k := 1504) (by decide)]
  refine ⟨i1, i2, i3, i4, i5, fun q u v => ?_, i7⟩
  obtain ⟨d1, d2⟩ := i6 q u v
  rw [dr_329]
  by_cases z : q = p
  · rw [if_pos z]
    refine ⟨hH, fun k s w => ?_⟩
    rw [dr_327, z, if_pos (by omega), show 24 * p + k - 24 * p = k by omega]
    exact dN_in g hp ht s
  · rw [if_neg z]
    refine ⟨d1, fun k s w => ?_⟩
    rw [dr_327, if_neg (by omega)]
    exact d2 k s w
theorem toR_th : toR (th 0 a) p = toR a p := toR_eq (eqA_sT (a := a) (b := th 0 a) fine_F).1 (eqT_sT fine_F)
theorem iX_draw (x0 : iA a) : iA (tDw a p) := by
  unfold tDw
  by_cases k : kDw a p = 0
  · obtain ⟨z1, z2⟩ := kDw_0.mp k
    rw [if_pos k]
    have x1 : iA (th 0 a) := iA_tk x0
    have hH : 1 ≤ th 0 a 2 310 p ∧ th 0 a 2 310 p ≤ 24 := hO x1.2.1 z1 z2
    have t0 : 0 ≤ toR a p := (to_in x0.1 z1).1
    refine ⟨iG_dr x1.1, iH_dr x1.1 x1.2.1 z1 t0 ⟨by omega, hH.2⟩, fun l u v => ?_, fun q u v => ?_⟩
    · rw [dr_o (k := 1504) (by decide)] at v
      rw [dr_o (r := 285) (by decide)]
      exact x1.2.2.1 l u v
    · rw [dr_o (r := 304) (by decide)]
      exact x1.2.2.2 q u v
  · rw [if_neg k]; exact iA_tk x0
theorem iV_draw (V : iV n a) : iV n (tDw a p) := by
  unfold tDw
  split
  · intro k u v
    have e : ∀ r i : Int, ¬ (326 ≤ r ∧ r ≤ 330) → tDr (th 0 a) p (toR a p) 2 r i = a 2 r i := fun r i w => dr_o (fun z => w z.2)
    rw [e 294 _ (by decide), e 295 _ (by decide), e 296 _ (by decide), e 298 _ (by decide), e 299 _ (by decide), e 302 _ (by decide), e 303 _ (by decide), e 284 _ (by decide), e 284 _ (by decide), show tDr (th 0 a) p (toR a p) 1504 282 0 = a 1504 282 0 from dr_o (by decide)]
    exact V k u v
  · exact V
end DR4

