/-! two lines are joined: all panes -/
/-- the folds of a pane are the same -/
def zF (p : Int) (a b : vH) : Prop := b 2 301 p = a 2 301 p ∧ ∀ r i, 302 ≤ r → r ≤ 304 → 6 * p ≤ i → i < 6 * p + a 2 301 p → b 2 r i = a 2 r i
/-- what a reference's heap is when the panes up to q are through -/
def rJo (l n : Int) (b : vH) (q : Int) (x : vH) : Prop :=
  (∀ (k : Nat) (r i : Int), ¬ (k = 2 ∧ ((r = 301 ∧ 0 ≤ i ∧ i < 4) ∨ (302 ≤ r ∧ r ≤ 304) ∨ rgS r ∨ rgV r ∨ (rgC r ∧ 0 ≤ i ∧ i < 4))) → x k r i = b k r i) ∧
  (∀ p, 0 ≤ p → p < q → zF p (dF (TT (gJo l n) b 4) p) x ∧ (∀ r i, rgS r → 6 * p ≤ i → i < 6 * p + b 2 293 p → x 2 r i = gJo l n b r i) ∧ (∀ r i, rgV r → 6 * p ≤ i → i < 6 * p + b 2 297 p → x 2 r i = gJo l n b r i) ∧ ∀ r, rgC r → x 2 r p = gJo l n b r p) ∧
  (∀ p, q ≤ p → p < 4 → (∀ r i, r = 301 ∧ i = p ∨ 302 ≤ r ∧ r ≤ 304 ∧ 6 * p ≤ i ∧ i < 6 * p + 6 → x 2 r i = b 2 r i) ∧ (∀ r i, rgS r ∨ rgV r → 6 * p ≤ i → i < 6 * p + 6 → x 2 r i = b 2 r i) ∧ ∀ r, rgC r → x 2 r p = b 2 r p)
section JN4
variable {h h2 a b : vH} {p q P Q X l x s f u t j st r l0 x0 n : Int}
theorem zF_dR (j0 : 0 ≤ j) (z : zF p a b) : zF p (dR a p 2 j) (dR b p 2 j) := by
  have n1 : dR a p 2 j 2 301 p = a 2 301 p - 1 := if_pos ⟨rfl, rfl, rfl⟩
  have n2 : dR b p 2 j 2 301 p = b 2 301 p - 1 := if_pos ⟨rfl, rfl, rfl⟩
  refine ⟨by rw [n1, n2, z.1], fun r i u v w y => ?_⟩
  rw [n1] at y
  have q1 : a 2 (293 + 4 * 2) p = a 2 301 p := rfl
  have q2 : b 2 (293 + 4 * 2) p = b 2 301 p := rfl
  have z1 := z.1
  unfold dR
  by_cases c : 6 * p + j ≤ i
  · rw [if_neg (by omega), if_pos (by omega), if_neg (by omega), if_pos (by omega)]
    exact z.2 r (i + 1) u v (by omega) (by omega)
  · rw [if_neg (by omega), if_neg (by omega), if_neg (by omega), if_neg (by omega)]
    exact z.2 r i u v w (by omega)
theorem zF_dFk : ∀ (k : Nat) (a b : vH), (k : Int) ≤ a 2 301 p → zF p a b → zF p (dFk p k a) (dFk p k b)
  | 0, _, _, _, z => z
  | k + 1, a, b, hk, z => by
    have e1 := z.2 302 (6 * p + k) (by decide) (by decide) (by omega) (by omega)
    have e2 := z.2 303 (6 * p + k) (by decide) (by decide) (by omega) (by omega)
    unfold dFk
    rw [e1, e2]
    by_cases c : a 2 302 (6 * p + k) = a 2 303 (6 * p + k)
    · rw [if_pos c, if_pos c]
      have n1 : dR a p 2 k 2 301 p = a 2 301 p - 1 := if_pos ⟨rfl, rfl, rfl⟩
      exact zF_dFk k _ _ (by omega) (zF_dR (by omega) z)
    · rw [if_neg c, if_neg c]
      exact zF_dFk k _ _ (by omega) z
theorem zF_tr {c : vH} (x : zF p a b) (y : zF p b c) : zF p a c := ⟨y.1.trans x.1, fun r i u v w z => (y.2 r i u v w (by rw [x.1]; exact z)).trans (x.2 r i u v w z)⟩
theorem zF_sy (x : zF p a b) : zF p b a := ⟨x.1.symm, fun r i u v w z => (x.2 r i u v w (by rw [← x.1]; exact z)).symm⟩
theorem zF_of (e : ∀ r i, r = 301 ∧ i = p ∨ 302 ≤ r ∧ r ≤ 304 ∧ 6 * p ≤ i ∧ i < 6 * p + 6 → b 2 r i = a 2 r i) (n6 : a 2 301 p ≤ 6) : zF p a b := ⟨e _ _ (Or.inl ⟨rfl, rfl⟩), fun r i u v w z => e r i (Or.inr ⟨u, v, w, by omega⟩)⟩
theorem zF_off (hp : 0 ≤ p ∧ p < 4) (hq : 0 ≤ q ∧ q < 4) (z : ¬ p = q) (n6 : cn6 a) : zF p a (dF a q) := zF_of (fun r i e => dF_o hq (n6 q hq.1 hq.2).2.2 (by omega)) (n6 p hp.1 hp.2).2.2.2
theorem zF_dF (hp : 0 ≤ p ∧ p < 4) (n6 : cn6 a) (z : zF p a b) : zF p (dF a p) (dF b p) := by
  have := zF_dFk (a 2 301 p).toNat a b (by have := (n6 p hp.1 hp.2).2.2; omega) z
  unfold dF
  rw [z.1]
  exact this
theorem zF_all (hp : 0 ≤ p ∧ p < 4) (n6 : cn6 a) : zF p (dF a p) (dFn 4 a) := by
  show zF p (dF a p) (dF (dF (dF (dF a 0) 1) 2) 3)
  have n0 := dF_n6 (p := 0) (by decide) n6
  have n1 := dF_n6 (p := 1) (by decide) n0
  have n2 := dF_n6 (p := 2) (by decide) n1
  rcases (show p = 0 ∨ p = 1 ∨ p = 2 ∨ p = 3 by omega) with e | e | e | e <;> subst e
  · exact zF_tr (zF_off (by decide) (by decide) (by decide) n0) (zF_tr (zF_off (by decide) (by decide) (by decide) n1) (zF_off (by decide) (by decide) (by decide) n2))
  · have y := zF_dF (p := 1) (by decide) n6 (zF_off (q := 0) (by decide) (by decide) (by decide) n6)
    exact zF_tr y (zF_tr (zF_off (by decide) (by decide) (by decide) n1) (zF_off (by decide) (by decide) (by decide) n2))
  · have y := zF_dF (p := 2) (by decide) n6 (zF_tr (zF_off (q := 0) (by decide) (by decide) (by decide) n6) (zF_off (q := 1) (by decide) (by decide) (by decide) n0))
    exact zF_tr y (zF_off (by decide) (by decide) (by decide) n2)
  · exact zF_dF (p := 3) (by decide) n6 (zF_tr (zF_off (q := 0) (by decide) (by decide) (by decide) n6) (zF_tr (zF_off (q := 1) (by decide) (by decide) (by decide) n0) (zF_off (q := 2) (by decide) (by decide) (by decide) n1)))
theorem dF4_o (n6 : cn6 a) {k : Nat} {r i : Int} (n : ¬ (k = 2 ∧ ((r = 301 ∧ 0 ≤ i ∧ i < 4) ∨ (302 ≤ r ∧ r ≤ 304)))) : dFn 4 a k r i = a k r i := dFn_o n6 n 4 (by decide)
/-- a pane that goes through -/
theorem oJ_o {G : Int → Int → Int} {k : Nat} {r i : Int} (hp : 0 ≤ p ∧ p < 4) (n6 : cn6 a) (n : ¬ (k = 2 ∧ ((r = 301 ∧ i = p) ∨ (302 ≤ r ∧ r ≤ 304 ∧ 6 * p ≤ i ∧ i < 6 * p + 6) ∨ ((rgS r ∨ rgV r) ∧ 6 * p ≤ i ∧ i < 6 * p + 6) ∨ (rgC r ∧ i = p)))) : oJ G a p k r i = a k r i := by
  have p6 := n6 p hp.1 hp.2
  have ms : mp (mp (mp a rgS (6 * p) (6 * p + a 2 293 p) G) rgV (6 * p) (6 * p + a 2 297 p) G) rgF (6 * p) (6 * p + a 2 301 p) G 2 301 p = a 2 301 p := (mp_r (by unfold rgF; decide)).trans ((mp_r (by unfold rgV; decide)).trans (mp_r (by unfold rgS; decide)))
  have m : ∀ q : Int, rgC q → ¬ (k = 2 ∧ r = q ∧ i = p) := fun q hq z => n ⟨z.1, Or.inr (Or.inr (Or.inr ⟨by rw [z.2.1]; exact hq, z.2.2⟩))⟩
  unfold oJ aTp aCu vup
  rw [if_neg (m _ (by unfold rgC; decide)), if_neg (m _ (by unfold rgC; decide)), if_neg (m _ (by unfold rgC; decide)), if_neg (m _ (by unfold rgC; decide))]
  rw [dFk_o hp (by omega) _ _ (by omega) (by omega)]
  refine (if_neg (fun z => n ⟨z.1, Or.inr (Or.inl ⟨by have := z.2.1; unfold rgF at this; omega, by have := z.2.1; unfold rgF at this; omega, z.2.2.1, by omega⟩)⟩)).trans ?_
  refine (if_neg (fun z => n ⟨z.1, Or.inr (Or.inr (Or.inl ⟨Or.inr z.2.1, z.2.2.1, by omega⟩))⟩)).trans ?_
  exact if_neg (fun z => n ⟨z.1, Or.inr (Or.inr (Or.inl ⟨Or.inl z.2.1, z.2.2.1, by omega⟩))⟩)
theorem oJ_in {G : Int → Int → Int} {r i : Int} (n : ¬ rgC r) : oJ G a p 2 r i = dFk p (a 2 301 p).toNat (mp (mp (mp a rgS (6 * p) (6 * p + a 2 293 p) G) rgV (6 * p) (6 * p + a 2 297 p) G) rgF (6 * p) (6 * p + a 2 301 p) G) 2 r i := by
  unfold oJ aTp aCu
  unfold rgC at n
  rw [vup_r (by omega), vup_r (by omega), vup_r (by omega), vup_r (by omega)]
theorem oJ_SV {G : Int → Int → Int} {r i : Int} (hp : 0 ≤ p ∧ p < 4) (n6 : cn6 a) (hr : rgS r ∨ rgV r) (u : 6 * p ≤ i) (v : rgS r → i < 6 * p + a 2 293 p) (w : rgV r → i < 6 * p + a 2 297 p) : oJ G a p 2 r i = G r i := by
  have p6 := n6 p hp.1 hp.2
  have ms : mp (mp (mp a rgS (6 * p) (6 * p + a 2 293 p) G) rgV (6 * p) (6 * p + a 2 297 p) G) rgF (6 * p) (6 * p + a 2 301 p) G 2 301 p = a 2 301 p := (mp_r (by unfold rgF; decide)).trans ((mp_r (by unfold rgV; decide)).trans (mp_r (by unfold rgS; decide)))
  rw [oJ_in (by unfold rgS rgV at hr; unfold rgC; omega), dFk_o hp (by unfold rgS rgV at hr; omega) _ _ (by omega) (by omega), mp_r (by unfold rgS rgV at hr; unfold rgF; omega)]
  rcases hr with hr | hr
  · rw [mp_r (by unfold rgS at hr; unfold rgV; omega), mp_in hr u (v hr)]
  · rw [mp_in hr u (w hr)]
theorem oJ_C {G : Int → Int → Int} {r : Int} (hr : rgC r) : oJ G a p 2 r p = G r p := by
  unfold oJ
  unfold rgC at hr
  rcases hr with e | e | e | e <;> subst e
  · exact (vup_r (by decide)).trans ((vup_r (by decide)).trans aCu_1.1)
  · exact (vup_r (by decide)).trans ((vup_r (by decide)).trans aCu_1.2)
  · exact aTp_1.1
  · exact aTp_1.2
theorem oJ_z {G : Int → Int → Int} : zF p (dFk p (a 2 301 p).toNat (mp (mp (mp a rgS (6 * p) (6 * p + a 2 293 p) G) rgV (6 * p) (6 * p + a 2 297 p) G) rgF (6 * p) (6 * p + a 2 301 p) G)) (oJ G a p) := ⟨oJ_in (by unfold rgC; decide), fun r i u v _ _ => oJ_in (by unfold rgC; omega)⟩
theorem rJo_s (hq : 0 ≤ q ∧ q < 4) {a1 : vH} (n6 : cn6 b) (n6x : cn6 a1) (R : rJo l n b q a1) : rJo l n b (q + 1) (oJ (gJo l n a1) a1 q) := by
  obtain ⟨R1, R2, R3⟩ := R
  obtain ⟨s1, s2, s3⟩ := R3 q (Int.le_refl _) hq.2
  have gS : ∀ r i, rgS r ∨ rgV r → 6 * q ≤ i → i < 6 * q + 6 → gJo l n a1 r i = gJo l n b r i := fun r i hr v w => by
    have s := fun r' (hr' : rgS r' ∨ rgV r') => s2 r' i hr' v w
    have t1 := s 294 (Or.inl (by unfold rgS; decide))
    have t2 := s 295 (Or.inl (by unfold rgS; decide))
    have t3 := s 296 (Or.inl (by unfold rgS; decide))
    have t4 := s 298 (Or.inr (by unfold rgV; decide))
    have t5 := s 299 (Or.inr (by unfold rgV; decide))
    unfold rgS rgV at hr
    rcases (show r = 294 ∨ r = 295 ∨ r = 296 ∨ r = 298 ∨ r = 299 by omega) with e | e | e | e | e <;> subst e
    · show jnL l (a1 2 294 i) = jnL l (b 2 294 i)
      rw [t1]
    · show jnX l n (a1 2 294 i) (a1 2 295 i) = jnX l n (b 2 294 i) (b 2 295 i)
      rw [t1, t2]
    · show jnX l n (a1 2 294 i) (a1 2 296 i) = jnX l n (b 2 294 i) (b 2 296 i)
      rw [t1, t3]
    · show jnL l (a1 2 298 i) = jnL l (b 2 298 i)
      rw [t4]
    · show jnX l n (a1 2 298 i) (a1 2 299 i) = jnX l n (b 2 298 i) (b 2 299 i)
      rw [t4, t5]
  have gF : ∀ r i, rgF r → 6 * q ≤ i → i < 6 * q + 6 → gJo l n a1 r i = gJo l n b r i := fun r i hr v w => by
    rw [gJo_F hr, gJo_F hr, s1 r i (Or.inr ⟨by unfold rgF at hr; omega, by unfold rgF at hr; omega, v, w⟩)]
  have gC : ∀ r, rgC r → gJo l n a1 r q = gJo l n b r q := fun r hr => gJo_loc.2 _ _ _ _ hr (fun q' y z => by
    by_cases d : rgC q'
    · exact s3 q' d
    · exact R1 2 q' q (fun e => by
        rcases e.2 with e | e | e | e | e
        · omega
        · omega
        · unfold rgS at e; omega
        · unfold rgV at e; omega
        · exact d e.1))
  refine ⟨fun k r i n => ?_, fun p p0 pq => ?_, fun p pq p4 => ⟨fun r i e => ?_, fun r i hr v w => ?_, fun r hr => ?_⟩⟩
  · rw [oJ_o hq n6x (fun e => n ⟨e.1, e.2.elim (fun w => Or.inl ⟨w.1, by omega, by omega⟩) (fun w => w.elim (fun w => Or.inr (Or.inl ⟨w.1, w.2.1⟩)) (fun w => w.elim (fun w => w.1.elim (fun w => Or.inr (Or.inr (Or.inl w))) (fun w => Or.inr (Or.inr (Or.inr (Or.inl w))))) (fun w => Or.inr (Or.inr (Or.inr (Or.inr ⟨w.1, by omega, by omega⟩))))))⟩)]
    exact R1 k r i n
  · by_cases z : p = q
    · subst z
      have es : a1 2 293 p = b 2 293 p := R1 _ _ _ (by unfold rgS rgV rgC; omega)
      have ev : a1 2 297 p = b 2 297 p := R1 _ _ _ (by unfold rgS rgV rgC; omega)
      have b6 := n6 p hq.1 hq.2
      refine ⟨?_, fun r i hr v w => ?_, fun r i hr v w => ?_, fun r hr => by rw [oJ_C hr]; exact gC r hr⟩
      · have ec : a1 2 301 p = b 2 301 p := s1 _ _ (Or.inl ⟨rfl, rfl⟩)
        have tc : TT (gJo l n) b 4 2 301 p = b 2 301 p := TT_o (by unfold rgL rgS rgV rgF rgC; omega)
        have mr : ∀ r i, ¬ rgV r → ¬ rgS r → mp (mp a1 rgS (6 * p) (6 * p + a1 2 293 p) (gJo l n a1)) rgV (6 * p) (6 * p + a1 2 297 p) (gJo l n a1) 2 r i = a1 2 r i := fun r i w2 w3 => (mp_r w2).trans (mp_r w3)
        have ms : mp (mp (mp a1 rgS (6 * p) (6 * p + a1 2 293 p) (gJo l n a1)) rgV (6 * p) (6 * p + a1 2 297 p) (gJo l n a1)) rgF (6 * p) (6 * p + a1 2 301 p) (gJo l n a1) 2 301 p = a1 2 301 p := (mp_r (by unfold rgF; decide)).trans (mr _ _ (by unfold rgV; decide) (by unfold rgS; decide))
        have z1 : zF p (TT (gJo l n) b 4) (mp (mp (mp a1 rgS (6 * p) (6 * p + a1 2 293 p) (gJo l n a1)) rgV (6 * p) (6 * p + a1 2 297 p) (gJo l n a1)) rgF (6 * p) (6 * p + a1 2 301 p) (gJo l n a1)) := by
          refine ⟨by rw [ms, tc, ec], fun r i v1 v2 v3 v4 => ?_⟩
          rw [tc] at v4
          by_cases e : r = 304
          · rw [mp_r (by unfold rgF; omega), mr r i (by unfold rgV; omega) (by unfold rgS; omega), TT_o (by unfold rgL rgS rgV rgF rgC; omega)]
            exact s1 r i (Or.inr ⟨v1, v2, v3, by omega⟩)
          · have hF : rgF r := by unfold rgF; omega
            rw [mp_in hF v3 (by omega), TT_L (Or.inr (Or.inr hF)), if_pos (by omega)]
            exact gF r i hF v3 (by omega)
        have z2 := zF_dFk (a1 2 301 p).toNat _ _ (by rw [tc, ec]; omega) z1
        have z3 : dF (TT (gJo l n) b 4) p = dFk p (a1 2 301 p).toNat (TT (gJo l n) b 4) := by
          unfold dF
          rw [tc, ec]
        rw [z3]
        exact zF_tr z2 oJ_z
      · rw [oJ_SV hq n6x (Or.inl hr) v (fun _ => by rw [es]; exact w) (fun z => by unfold rgS at hr; unfold rgV at z; omega)]
        exact gS r i (Or.inl hr) v (by omega)
      · rw [oJ_SV hq n6x (Or.inr hr) v (fun z => by unfold rgV at hr; unfold rgS at z; omega) (fun _ => by rw [ev]; exact w)]
        exact gS r i (Or.inr hr) v (by omega)
    · obtain ⟨t1, t2, t3, t4⟩ := R2 p p0 (by omega)
      have x6 := (n6x p p0 (by omega)).2.2
      have b6 := n6 p p0 (by omega)
      refine ⟨zF_tr t1 (zF_of (fun r i e => oJ_o hq n6x (fun w => by unfold rgS rgV rgC at w; omega)) x6.2), fun r i hr v w => ?_, fun r i hr v w => ?_, fun r hr => ?_⟩
      · rw [oJ_o hq n6x (fun e => by unfold rgS at hr; unfold rgS rgV rgC at e; omega)]
        exact t2 r i hr v w
      · rw [oJ_o hq n6x (fun e => by unfold rgV at hr; unfold rgS rgV rgC at e; omega)]
        exact t3 r i hr v w
      · rw [oJ_o hq n6x (fun e => by unfold rgC at hr; unfold rgS rgV rgC at e; omega)]
        exact t4 r hr
  · rw [oJ_o hq n6x (fun w => by unfold rgS rgV rgC at w; omega)]
    exact (R3 p (by omega) p4).1 r i e
  · rw [oJ_o hq n6x (fun e => by unfold rgS rgV at hr; unfold rgS rgV rgC at e; omega)]
    exact (R3 p (by omega) p4).2.1 r i hr v w
  · rw [oJ_o hq n6x (fun e => by unfold rgC at hr; unfold rgS rgV rgC at e; omega)]
    exact (R3 p (by omega) p4).2.2 r hr
theorem rJo_0 : rJo l n b 0 b := ⟨fun _ _ _ _ => rfl, fun p u v => by omega, fun _ _ _ => ⟨fun _ _ _ => rfl, fun _ _ _ _ _ => rfl, fun _ _ => rfl⟩⟩
theorem rJo_n6 (n6 : cn6 b) {a1 : vH} (hq : 0 ≤ q ∧ q ≤ 4) (R : rJo l n b q a1) : cn6 a1 := fun p u' v => by
  obtain ⟨R1, R2, R3⟩ := R
  have k := n6 p u' v
  rw [R1 2 297 p (by unfold rgS rgV rgC; omega), R1 2 293 p (by unfold rgS rgV rgC; omega)]
  refine ⟨k.1, k.2.1, ?_⟩
  by_cases z : p < q
  · rw [(R2 p u' z).1.1]
    exact (dF_n6 ⟨u', v⟩ (TT_n6 n6) p u' v).2.2
  · rw [(R3 p (by omega) v).1 _ _ (Or.inl ⟨rfl, rfl⟩)]
    exact k.2.2
theorem rJo_u (n6 : cn6 b) {a1 : vH} (R : rJo l n b 4 a1) : uE a1 (dFn 4 (TT (gJo l n) b 4)) := by
  obtain ⟨R1, R2, R3⟩ := R
  have nT : cn6 (TT (gJo l n) b 4) := TT_n6 n6
  have eT : ∀ (k : Nat) (r i : Int), ¬ (k = 2 ∧ (rgS r ∨ rgV r ∨ rgF r ∨ (rgC r ∧ 0 ≤ i ∧ i < 4))) → TT (gJo l n) b 4 k r i = b k r i := fun k r i n => by
    by_cases z : k = 2 ∧ (rgL r ∨ rgC r)
    · obtain ⟨z1, z2⟩ := z
      subst z1
      rcases z2 with z2 | z2
      · exact absurd z2 (fun w => n ⟨rfl, w.elim Or.inl (fun w => w.elim (fun w => Or.inr (Or.inl w)) (fun w => Or.inr (Or.inr (Or.inl w))))⟩)
      · rw [TT_C z2, if_neg (fun w => n ⟨rfl, Or.inr (Or.inr (Or.inr ⟨z2, w⟩))⟩)]
    · exact TT_o z
  refine ⟨fun k r i u' v n1 n2 => ?_, fun p p0 p4 => ⟨fun r k u1 u2 u3 u4 => ?_, fun r k u1 u2 u3 u4 => ?_, fun r k u1 u2 u3 u4 => ?_⟩⟩
  · by_cases z : k = 2 ∧ r = 301 ∧ 0 ≤ i ∧ i < 4
    · obtain ⟨z1, z2, z3, z4⟩ := z
      subst z1; subst z2
      rw [(zF_all ⟨z3, z4⟩ nT).1]
      exact (R2 i z3 z4).1.1.symm
    · rw [dF4_o nT (fun w => by
        rcases w.2 with y | y
        · exact z ⟨w.1, y⟩
        · exact n1 ⟨w.1, by unfold lyr; omega⟩)]
      by_cases y : k = 2 ∧ rgC r ∧ 0 ≤ i ∧ i < 4
      · obtain ⟨y1, y2, y3, y4⟩ := y
        subst y1
        rw [TT_C y2, if_pos ⟨y3, y4⟩]
        exact ((R2 i y3 y4).2.2.2 r y2).symm
      · rw [eT k r i (fun w => by
          rcases w.2 with e | e | e | e
          · exact n1 ⟨w.1, by unfold rgS at e; unfold lyr; omega⟩
          · exact n1 ⟨w.1, by unfold rgV at e; unfold lyr; omega⟩
          · exact n1 ⟨w.1, by unfold rgF at e; unfold lyr; omega⟩
          · exact y ⟨w.1, e⟩)]
        exact (R1 k r i (fun w => by
          rcases w.2 with e | e | e | e | e
          · exact z ⟨w.1, e⟩
          · exact n1 ⟨w.1, by unfold lyr; omega⟩
          · exact n1 ⟨w.1, by unfold rgS at e; unfold lyr; omega⟩
          · exact n1 ⟨w.1, by unfold rgV at e; unfold lyr; omega⟩
          · exact y ⟨w.1, e⟩)).symm
  · rw [dF4_o nT (by omega)]
    have es : a1 2 293 p = b 2 293 p := R1 _ _ _ (by unfold rgS rgV rgC; omega)
    have b6 := (n6 p p0 p4).1
    rw [TT_L (Or.inl ⟨u1, by omega⟩), if_pos (by omega)]
    exact ((R2 p p0 p4).2.1 r k ⟨u1, by omega⟩ u3 (by rw [← es]; exact u4)).symm
  · rw [dF4_o nT (by omega)]
    have ev : a1 2 297 p = b 2 297 p := R1 _ _ _ (by unfold rgS rgV rgC; omega)
    have b6 := (n6 p p0 p4).2.1
    by_cases e : r = 300
    · rw [eT 2 r k (by unfold rgS rgV rgF rgC; omega)]
      exact (R1 2 r k (by unfold rgS rgV rgC; omega)).symm
    · rw [TT_L (Or.inr (Or.inl ⟨u1, by omega⟩)), if_pos (by omega)]
      exact ((R2 p p0 p4).2.2.1 r k ⟨u1, by omega⟩ u3 (by rw [← ev]; exact u4)).symm
  · have t := (R2 p p0 p4).1
    have y := zF_tr (zF_sy t) (zF_all ⟨p0, p4⟩ nT)
    exact y.2 r k u1 u2 u3 u4
end JN4

