/-! signs go: all panes, the text -/
/-- the class's line -/
def lnO (h : vH) (X f u n : Int) : vH := vup (vcp h (X + 1) u (X + 1) f (n - u)) 601 X 0 (n - (u - f))
/-- what a reference's heap is when the panes up to q are through -/
def rWe (l f u : Int) (b : vH) (q : Int) (x : vH) : Prop :=
  (∀ (k : Nat) (r i : Int), ¬ (k = 2 ∧ ((r = 293 ∧ 0 ≤ i ∧ i < 4) ∨ (294 ≤ r ∧ r ≤ 296) ∨ rgV r ∨ (rgC r ∧ 0 ≤ i ∧ i < 4))) → x k r i = b k r i) ∧
  (∀ p, 0 ≤ p → p < q → zE p (dE (TT (gWe l f u) b 4) p) x ∧ (∀ r i, rgV r → 6 * p ≤ i → i < 6 * p + b 2 297 p → x 2 r i = gWe l f u b r i) ∧ ∀ r, rgC r → x 2 r p = gWe l f u b r p) ∧
  (∀ p, q ≤ p → p < 4 → (∀ r i, r = 293 ∧ i = p ∨ 294 ≤ r ∧ r ≤ 296 ∧ 6 * p ≤ i ∧ i < 6 * p + 6 → x 2 r i = b 2 r i) ∧ (∀ r i, rgV r → 6 * p ≤ i → i < 6 * p + 6 → x 2 r i = b 2 r i) ∧ ∀ r, rgC r → x 2 r p = b 2 r p)
section REM
variable {h h2 a b : vH} {p q P Q X l x s f u t j st r l0 x0 n : Int}
theorem dEk_n (hp : 0 ≤ p) : ∀ (k : Nat) (a : vH), (k : Int) ≤ a 2 293 p → 0 ≤ dEk p k a 2 293 p ∧ dEk p k a 2 293 p ≤ a 2 293 p
  | 0, a, hk => ⟨hk, Int.le_refl _⟩
  | k + 1, a, hk => by
    have e2 : dR a p 0 k 2 293 p = a 2 293 p - 1 := if_pos ⟨rfl, rfl, rfl⟩
    unfold dEk
    split
    · have ih := dEk_n hp k (dR a p 0 k) (by omega)
      omega
    · exact dEk_n hp k a (by omega)
theorem dE_n6 (hp : 0 ≤ p ∧ p < 4) (n6 : cn6 a) : cn6 (dE a p) := fun q u v => by
  have k := n6 q u v
  have kp := n6 p hp.1 hp.2
  rw [dE_o hp kp.1 (r := 297) (by omega), dE_o hp kp.1 (r := 301) (by omega)]
  refine ⟨?_, k.2⟩
  by_cases z : q = p
  · rw [z]
    have := dEk_n hp.1 (a 2 293 p).toNat a (by omega)
    unfold dE
    omega
  · rw [dE_o hp kp.1 (by omega)]
    exact k.1
theorem zE_off (hp : 0 ≤ p ∧ p < 4) (hq : 0 ≤ q ∧ q < 4) (z : ¬ p = q) (n6 : cn6 a) : zE p a (dE a q) := zE_of (fun r i e => dE_o hq (n6 q hq.1 hq.2).1 (by omega)) (n6 p hp.1 hp.2).1.2
theorem zE_dE (hp : 0 ≤ p ∧ p < 4) (n6 : cn6 a) (z : zE p a b) : zE p (dE a p) (dE b p) := by
  have := zE_dEk (a 2 293 p).toNat a b (by have := (n6 p hp.1 hp.2).1; omega) z
  unfold dE
  rw [z.1]
  exact this
theorem zE_all (hp : 0 ≤ p ∧ p < 4) (n6 : cn6 a) : zE p (dE a p) (dE (dE (dE (dE a 0) 1) 2) 3) := by
  have n0 := dE_n6 (p := 0) (by decide) n6
  have n1 := dE_n6 (p := 1) (by decide) n0
  have n2 := dE_n6 (p := 2) (by decide) n1
  rcases (show p = 0 ∨ p = 1 ∨ p = 2 ∨ p = 3 by omega) with e | e | e | e <;> subst e
  · exact zE_tr (zE_off (by decide) (by decide) (by decide) n0) (zE_tr (zE_off (by decide) (by decide) (by decide) n1) (zE_off (by decide) (by decide) (by decide) n2))
  · have y := zE_dE (p := 1) (by decide) n6 (zE_off (q := 0) (by decide) (by decide) (by decide) n6)
    exact zE_tr y (zE_tr (zE_off (by decide) (by decide) (by decide) n1) (zE_off (by decide) (by decide) (by decide) n2))
  · have y := zE_dE (p := 2) (by decide) n6 (zE_tr (zE_off (q := 0) (by decide) (by decide) (by decide) n6) (zE_off (q := 1) (by decide) (by decide) (by decide) n0))
    exact zE_tr y (zE_off (by decide) (by decide) (by decide) n2)
  · exact zE_dE (p := 3) (by decide) n6 (zE_tr (zE_off (q := 0) (by decide) (by decide) (by decide) n6) (zE_tr (zE_off (q := 1) (by decide) (by decide) (by decide) n0) (zE_off (q := 2) (by decide) (by decide) (by decide) n1)))
theorem dE4_o (n6 : cn6 a) {k : Nat} {r i : Int} (n : ¬ (k = 2 ∧ ((r = 293 ∧ 0 ≤ i ∧ i < 4) ∨ (294 ≤ r ∧ r ≤ 296)))) : dE (dE (dE (dE a 0) 1) 2) 3 k r i = a k r i := by
  have n0 := dE_n6 (p := 0) (by decide) n6
  have n1 := dE_n6 (p := 1) (by decide) n0
  have n2 := dE_n6 (p := 2) (by decide) n1
  rw [dE_o (by decide) (n2 3 (by decide) (by decide)).1 (by omega), dE_o (by decide) (n1 2 (by decide) (by decide)).1 (by omega), dE_o (by decide) (n0 1 (by decide) (by decide)).1 (by omega), dE_o (by decide) (n6 0 (by decide) (by decide)).1 (by omega)]
/-- a pane that goes through -/
theorem oD_o {G : Int → Int → Int} {k : Nat} {r i : Int} (hp : 0 ≤ p ∧ p < 4) (n6 : cn6 a) (n : ¬ (k = 2 ∧ ((r = 293 ∧ i = p) ∨ (294 ≤ r ∧ r ≤ 296 ∧ 6 * p ≤ i ∧ i < 6 * p + 6) ∨ (rgV r ∧ 6 * p ≤ i ∧ i < 6 * p + 6) ∨ (rgC r ∧ i = p)))) : oD G a p k r i = a k r i := by
  have p6 := n6 p hp.1 hp.2
  have ms : mp a rgS (6 * p) (6 * p + a 2 293 p) G 2 293 p = a 2 293 p := mp_r (by unfold rgS; decide)
  have m : ∀ q : Int, rgC q → ¬ (k = 2 ∧ r = q ∧ i = p) := fun q hq z => n ⟨z.1, Or.inr (Or.inr (Or.inr ⟨by rw [z.2.1]; exact hq, z.2.2⟩))⟩
  unfold oD aTp aCu vup
  rw [if_neg (m _ (by unfold rgC; decide)), if_neg (m _ (by unfold rgC; decide)), if_neg (m _ (by unfold rgC; decide)), if_neg (m _ (by unfold rgC; decide))]
  refine (if_neg (fun z => n ⟨z.1, Or.inr (Or.inr (Or.inl ⟨z.2.1, z.2.2.1, by omega⟩))⟩)).trans ?_
  rw [dEk_o hp (by omega) _ _ (by omega) (by omega)]
  exact if_neg (fun z => n ⟨z.1, Or.inr (Or.inl ⟨z.2.1.1, z.2.1.2, z.2.2.1, by omega⟩)⟩)
theorem oD_in {G : Int → Int → Int} {r i : Int} (n : ¬ rgC r) : oD G a p 2 r i = mp (dEk p (a 2 293 p).toNat (mp a rgS (6 * p) (6 * p + a 2 293 p) G)) rgV (6 * p) (6 * p + a 2 297 p) G 2 r i := by
  unfold oD aTp aCu
  unfold rgC at n
  rw [vup_r (by omega), vup_r (by omega), vup_r (by omega), vup_r (by omega)]
theorem oD_V {G : Int → Int → Int} {r i : Int} (hr : rgV r) (u : 6 * p ≤ i) (v : i < 6 * p + a 2 297 p) : oD G a p 2 r i = G r i := by
  rw [oD_in (by unfold rgV at hr; unfold rgC; omega), mp_in hr u v]
theorem oD_C {G : Int → Int → Int} {r : Int} (hr : rgC r) : oD G a p 2 r p = G r p := by
  unfold oD
  unfold rgC at hr
  rcases hr with e | e | e | e <;> subst e
  · exact (vup_r (by decide)).trans ((vup_r (by decide)).trans aCu_1.1)
  · exact (vup_r (by decide)).trans ((vup_r (by decide)).trans aCu_1.2)
  · exact aTp_1.1
  · exact aTp_1.2
theorem oD_z {G : Int → Int → Int} : zE p (dEk p (a 2 293 p).toNat (mp a rgS (6 * p) (6 * p + a 2 293 p) G)) (oD G a p) := ⟨(oD_in (by unfold rgC; decide)).trans (mp_r (by unfold rgV; decide)), fun r i u v _ _ => (oD_in (by unfold rgC; omega)).trans (mp_r (by unfold rgV; omega))⟩
theorem rWe_s (hq : 0 ≤ q ∧ q < 4) {a1 : vH} (n6 : cn6 b) (n6x : cn6 a1) (R : rWe l f u b q a1) : rWe l f u b (q + 1) (oD (gWe l f u a1) a1 q) := by
  obtain ⟨R1, R2, R3⟩ := R
  obtain ⟨s1, s2, s3⟩ := R3 q (Int.le_refl _) hq.2
  have nT : cn6 (TT (gWe l f u) b 4) := TT_n6 n6
  have gL : ∀ r i, rgL r → 6 * q ≤ i → i < 6 * q + 6 → gWe l f u a1 r i = gWe l f u b r i := fun r i hr v w => gWe_loc.1 _ _ _ _ hr (fun q' y z => by
    by_cases c : 294 ≤ q' ∧ q' ≤ 296
    · exact s1 q' i (Or.inr ⟨c.1, c.2, v, w⟩)
    · by_cases d : rgV q'
      · exact s2 q' i d v w
      · exact R1 2 q' i (fun e => by
          rcases e.2 with e | e | e | e
          · omega
          · exact c e
          · exact d e
          · unfold rgC at e; omega))
  have gC : ∀ r, rgC r → gWe l f u a1 r q = gWe l f u b r q := fun r hr => gWe_loc.2 _ _ _ _ hr (fun q' y z => by
    by_cases d : rgC q'
    · exact s3 q' d
    · exact R1 2 q' q (fun e => by
        rcases e.2 with e | e | e | e
        · omega
        · omega
        · unfold rgV at e; omega
        · exact d e.1))
  refine ⟨fun k r i n => ?_, fun p p0 pq => ?_, fun p pq p4 => ⟨fun r i e => ?_, fun r i hr v w => ?_, fun r hr => ?_⟩⟩
  · rw [oD_o hq n6x (fun e => n ⟨e.1, e.2.elim (fun w => Or.inl ⟨w.1, by omega, by omega⟩) (fun w => w.elim (fun w => Or.inr (Or.inl ⟨w.1, w.2.1⟩)) (fun w => w.elim (fun w => Or.inr (Or.inr (Or.inl w.1))) (fun w => Or.inr (Or.inr (Or.inr ⟨w.1, by omega, by omega⟩)))))⟩)]
    exact R1 k r i n
  · by_cases z : p = q
    · subst z
      refine ⟨?_, fun r i hr v w => ?_, fun r hr => by rw [oD_C hr]; exact gC r hr⟩
      · have ec : a1 2 293 p = b 2 293 p := s1 _ _ (Or.inl ⟨rfl, rfl⟩)
        have tc : TT (gWe l f u) b 4 2 293 p = b 2 293 p := TT_o (by unfold rgL rgS rgV rgF rgC; omega)
        have ms : mp a1 rgS (6 * p) (6 * p + a1 2 293 p) (gWe l f u a1) 2 293 p = a1 2 293 p := mp_r (by unfold rgS; decide)
        have b6 := (n6 p hq.1 hq.2).1
        have z1 : zE p (TT (gWe l f u) b 4) (mp a1 rgS (6 * p) (6 * p + a1 2 293 p) (gWe l f u a1)) := by
          refine ⟨by rw [ms, tc, ec], fun r i v1 v2 v3 v4 => ?_⟩
          rw [tc] at v4
          rw [mp_in ⟨v1, v2⟩ v3 (by omega), TT_L (Or.inl ⟨v1, v2⟩), if_pos (by omega)]
          exact gL r i (Or.inl ⟨v1, v2⟩) v3 (by omega)
        have z2 := zE_dEk (a1 2 293 p).toNat _ _ (by rw [tc, ec]; omega) z1
        have z3 : dE (TT (gWe l f u) b 4) p = dEk p (a1 2 293 p).toNat (TT (gWe l f u) b 4) := by
          unfold dE
          rw [tc, ec]
        rw [z3]
        exact zE_tr z2 oD_z
      · have ev : a1 2 297 p = b 2 297 p := R1 _ _ _ (by unfold rgV rgC; omega)
        have b6 := (n6 p hq.1 hq.2).2.1
        rw [oD_V hr v (by rw [ev]; exact w)]
        exact gL r i (Or.inr (Or.inl hr)) v (by omega)
    · obtain ⟨t1, t2, t3⟩ := R2 p p0 (by omega)
      have x6 := (n6x p p0 (by omega)).1
      refine ⟨zE_tr t1 (zE_of (fun r i e => oD_o hq n6x (fun w => by unfold rgV rgC at w; omega)) x6.2), fun r i hr v w => ?_, fun r hr => ?_⟩
      · have b6 := (n6 p p0 (by omega)).2.1
        rw [oD_o hq n6x (fun e => by unfold rgV at hr; unfold rgC at e; omega)]
        exact t2 r i hr v w
      · rw [oD_o hq n6x (fun e => by unfold rgC at hr; unfold rgV at e; omega)]
        exact t3 r hr
  · rw [oD_o hq n6x (fun w => by unfold rgV rgC at w; omega)]
    exact (R3 p (by omega) p4).1 r i e
  · rw [oD_o hq n6x (fun e => by unfold rgV at hr; unfold rgC at e; omega)]
    exact (R3 p (by omega) p4).2.1 r i hr v w
  · rw [oD_o hq n6x (fun e => by unfold rgC at hr; unfold rgV at e; omega)]
    exact (R3 p (by omega) p4).2.2 r hr
theorem rWe_0 : rWe l f u b 0 b := ⟨fun _ _ _ _ => rfl, fun p u v => by omega, fun _ _ _ => ⟨fun _ _ _ => rfl, fun _ _ _ _ _ => rfl, fun _ _ => rfl⟩⟩
theorem rWe_n6 (n6 : cn6 b) {a1 : vH} (hq : 0 ≤ q ∧ q ≤ 4) (R : rWe l f u b q a1) : cn6 a1 := fun p u' v => by
  obtain ⟨R1, R2, R3⟩ := R
  have k := n6 p u' v
  rw [R1 2 297 p (by unfold rgV rgC; omega), R1 2 301 p (by unfold rgV rgC; omega)]
  refine ⟨?_, k.2⟩
  by_cases z : p < q
  · rw [(R2 p u' z).1.1]
    exact (dE_n6 ⟨u', v⟩ (TT_n6 n6) p u' v).1
  · rw [(R3 p (by omega) v).1 _ _ (Or.inl ⟨rfl, rfl⟩)]
    exact k.1
theorem rWe_u (n6 : cn6 b) {a1 : vH} (R : rWe l f u b 4 a1) : uE a1 (dE (dE (dE (dE (TT (gWe l f u) b 4) 0) 1) 2) 3) := by
  obtain ⟨R1, R2, R3⟩ := R
  have nT : cn6 (TT (gWe l f u) b 4) := TT_n6 n6
  have gI : ∀ r i, rgL r → ¬ rgS r → ¬ rgV r → gWe l f u b r i = b 2 r i := fun r i h1 h2 h3 => by
    unfold rgL rgS rgV rgF at h1
    unfold rgS at h2
    unfold rgV at h3
    unfold gWe
    rw [if_neg (by omega), if_neg (by omega), if_neg (by omega), if_neg (by omega), if_neg (by omega)]
  -- what isn't a span
  have eT : ∀ (k : Nat) (r i : Int), ¬ (k = 2 ∧ (rgS r ∨ rgV r ∨ (rgC r ∧ 0 ≤ i ∧ i < 4))) → TT (gWe l f u) b 4 k r i = b k r i := fun k r i n => by
    by_cases z : k = 2 ∧ (rgL r ∨ rgC r)
    · obtain ⟨z1, z2⟩ := z
      subst z1
      rcases z2 with z2 | z2
      · rw [TT_L z2]
        split
        · exact gI r i z2 (fun w => n ⟨rfl, Or.inl w⟩) (fun w => n ⟨rfl, Or.inr (Or.inl w)⟩)
        · rfl
      · rw [TT_C z2, if_neg (fun w => n ⟨rfl, Or.inr (Or.inr ⟨z2, w⟩)⟩)]
    · exact TT_o z
  refine ⟨fun k r i u' v n1 n2 => ?_, fun p p0 p4 => ⟨fun r k u1 u2 u3 u4 => ?_, fun r k u1 u2 u3 u4 => ?_, fun r k u1 u2 u3 u4 => ?_⟩⟩
  · by_cases z : k = 2 ∧ r = 293 ∧ 0 ≤ i ∧ i < 4
    · obtain ⟨z1, z2, z3, z4⟩ := z
      subst z1; subst z2
      rw [(zE_all ⟨z3, z4⟩ nT).1]
      exact (R2 i z3 z4).1.1.symm
    · rw [dE4_o nT (fun w => by
        rcases w.2 with y | y
        · exact z ⟨w.1, y⟩
        · exact n1 ⟨w.1, by unfold lyr; omega⟩)]
      by_cases y : k = 2 ∧ rgC r ∧ 0 ≤ i ∧ i < 4
      · obtain ⟨y1, y2, y3, y4⟩ := y
        subst y1
        rw [TT_C y2, if_pos ⟨y3, y4⟩]
        exact ((R2 i y3 y4).2.2 r y2).symm
      · rw [eT k r i (fun w => by
          rcases w.2 with e | e | e
          · exact n1 ⟨w.1, by unfold rgS at e; unfold lyr; omega⟩
          · exact n1 ⟨w.1, by unfold rgV at e; unfold lyr; omega⟩
          · exact y ⟨w.1, e⟩)]
        exact (R1 k r i (fun w => by
          rcases w.2 with e | e | e | e
          · exact z ⟨w.1, e⟩
          · exact n1 ⟨w.1, by unfold lyr; omega⟩
          · exact n1 ⟨w.1, by unfold rgV at e; unfold lyr; omega⟩
          · exact y ⟨w.1, e⟩)).symm
  · have t := (R2 p p0 p4).1
    have y := zE_tr (zE_sy t) (zE_all ⟨p0, p4⟩ nT)
    exact y.2 r k u1 u2 u3 u4
  · rw [dE4_o nT (by omega)]
    have ev : a1 2 297 p = b 2 297 p := R1 _ _ _ (by unfold rgV rgC; omega)
    have b6 := (n6 p p0 p4).2.1
    by_cases e : r = 300
    · rw [eT 2 r k (by unfold rgS rgV rgC; omega)]
      exact (R1 2 r k (by unfold rgV rgC; omega)).symm
    · rw [TT_L (Or.inr (Or.inl ⟨u1, by omega⟩)), if_pos (by omega)]
      exact ((R2 p p0 p4).2.1 r k ⟨u1, by omega⟩ u3 (by rw [← ev]; exact u4)).symm
  · rw [dE4_o nT (by omega), eT 2 r k (by unfold rgS rgV rgC; omega)]
    exact (R1 2 r k (by unfold rgV rgC; omega)).symm
/-- the text -/
theorem C_lnOut (sL : shLine h X) (hn : h 601 X 0 = n) (hf : 0 ≤ f ∧ f < u) (hu : u ≤ n) (h80 : n ≤ 80) : vcl mX4_takeOut [(1, X), (0, f), (0, u)] h = some (.inl none, lnO h X f u n) := by
  have e : h 601 X 0 = n := hn
  refine (show _ = _ from rX4_takeOut_0 sL (by omega) (by omega) (by omega) (by omega) (by omega) (by omega) (by omega) (by omega) (by omega) (by omega)).trans ?_
  rw [e, if_neg (by omega), if_neg (by omega), if_pos hu]
  rfl
theorem lnO_sx : sx h (lnO h X f u n) := sx_up rfl (sx_cp sx_rf)
theorem lnO_tF (hX : 6 ≤ X ∧ X ≤ 124) : tF h (lnO h X f u n) := fun k r i e => by
  unfold lnO vup vcp
  rw [if_neg (by omega), if_neg (by omega)]
theorem lnO_k {k : Nat} {r i : Int} (e : ¬ k = 2 ∧ ¬ k = 601) : lnO h X f u n k r i = h k r i := (vup_k e.2).trans (vcp_k e.1)
theorem lnO_2 {i : Int} (e : ¬ r = X + 1) : lnO h X f u n 2 r i = h 2 r i := (vup_k (by decide)).trans (vcp_r e)
theorem lnO_i {i : Int} : lnO h X f u n 2 (X + 1) i = if f ≤ i ∧ i < f + (n - u) then h 2 (X + 1) (u + (i - f)) else h 2 (X + 1) i := by
  refine (vup_k (by decide)).trans ?_
  unfold vcp
  by_cases y : f ≤ i ∧ i < f + (n - u)
  · rw [if_pos y, if_pos ⟨rfl, rfl, y.1, y.2⟩]
  · rw [if_neg y, if_neg (fun w => y w.2.2)]
theorem cTx_O (c : cTx h a) (hl : 0 ≤ l ∧ l < a 1504 282 0) (hf : 0 ≤ f ∧ f < u) (hu : u ≤ a 2 284 l) (le : ∀ i, 0 ≤ i → i < 60 → a 2 284 i ≤ 80) : cTx (lnO h (h 2 5 l) f u (a 2 284 l)) (tO a l f u) := by
  obtain ⟨c1, c2, c3, c4, c5⟩ := c
  have l60 : l < 60 := by omega
  have r0 := c3 l hl.1 l60
  have ll := le l hl.1 l60
  have e5 : ∀ i, lnO h (h 2 5 l) f u (a 2 284 l) 2 5 i = h 2 5 i := fun i => lnO_2 (by omega)
  have el : tO a l f u 1504 282 0 = a 1504 282 0 := tO_o (by decide)
  have X := lnO_sx (h := h) (X := h 2 5 l) (f := f) (u := u) (n := a 2 284 l)
  refine ⟨shText_sx X c1, ⟨(lnO_k (by decide)).trans (c2.1.trans el.symm), by rw [el]; exact c2.2⟩, fun i u v => ?_, fun i j u v w => ?_, fun i u' v => ?_⟩
  · rw [e5]; exact ⟨shLine_sx X (c3 i u v).1, (c3 i u v).2⟩
  · rw [e5, e5]; exact c4 i j u v w
  · rw [el] at v
    obtain ⟨⟨d1, d2, d3⟩, d4⟩ := c5 i u' v
    rw [e5]
    have ri := c3 i u' (by omega)
    refine ⟨⟨shLine_sx X d1, ?_, fun j s1 t1 => ?_⟩, ?_⟩
    · rw [tO_l]
      by_cases z : i = l
      · rw [if_pos z, z]; exact vup_s
      · have n : ¬ h 2 5 i = h 2 5 l := by
          by_cases y : i < l
          · exact c4 i l u' y l60
          · exact fun e => c4 l i hl.1 (by omega) (by omega) e.symm
        rw [if_neg z]
        exact (vup_r n).trans ((vcp_k (by decide)).trans d2)
    · rw [tO_l] at t1
      have li := le i u' (by omega)
      rw [tO_s]
      by_cases z : i = l
      · rw [if_pos z] at t1
        rw [z] at d3 ⊢
        rw [lnO_i]
        by_cases w : f ≤ j
        · rw [if_pos (by omega), if_pos (by omega), d3 (u + (j - f)) (by omega) (by omega), show 80 * l + (u + (j - f)) = 80 * l + j + u - f by omega]
        · rw [if_neg (by omega), if_neg (by omega), d3 j (by omega) (by omega)]
      · rw [if_neg z] at t1
        have n : ¬ h 2 5 i + 1 = h 2 5 l + 1 := by
          by_cases y : i < l
          · have := c4 i l u' y l60
            omega
          · have := c4 l i hl.1 (by omega) (by omega)
            omega
        rw [lnO_2 n, if_neg (by omega)]
        exact d3 j s1 t1
    · rw [tO_o (by decide)]
      exact (lnO_k (by decide)).trans d4
end REM

