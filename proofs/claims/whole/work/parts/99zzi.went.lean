/-! signs go: the reference -/
/-- where a place goes when the signs f to u of the line l go -/
def weX (l f u L X : Int) : Int := if L = l then (if f < X then (if u ≤ X then X - (u - f) else f) else X) else X
def gWe (l f u : Int) (a : vH) (r i : Int) : Int := if r = 295 then weX l f u (a 2 294 i) (a 2 295 i) else if r = 296 then weX l f u (a 2 294 i) (a 2 296 i) else if r = 299 then weX l f u (a 2 298 i) (a 2 299 i) else if r = 306 then weX l f u (a 2 305 i) (a 2 306 i) else if r = 309 then weX l f u (a 2 308 i) (a 2 309 i) else a 2 r i
/-- signs are taken out, up to the sign e -/
def tOe (a : vH) (l f u e : Int) : vH := fun k r i => if k = 2 ∧ r = 284 ∧ i = l then a 2 284 l - (u - f) else if k = 2 ∧ r = 283 ∧ 80 * l + f ≤ i ∧ i < e then a 2 283 (i + u - f) else a k r i
def tO (a : vH) (l f u : Int) : vH := tOe a l f u (80 * l + (a 2 284 l - (u - f)))
/-- the empty ones of the first k spans of a pane are dropped, from the last one down -/
def dEk (p : Int) : Nat → vH → vH
  | 0, a => a
  | k + 1, a => dEk p k (if a 2 295 (6 * p + k) = a 2 296 (6 * p + k) then dR a p 0 k else a)
def dE (a : vH) (p : Int) : vH := dEk p (a 2 293 p).toNat a
/-- the reference when signs have gone -/
noncomputable def tWe (a : vH) (l f u : Int) : vH := TT (gWe l f u) (tO a l f u) 4
noncomputable def tWd (a : vH) (l f u : Int) : vH := dE (dE (dE (dE (tWe a l f u) 0) 1) 2) 3
section WNT
variable {h h2 a b : vH} {p q P Q X l x s f u t j st r l0 x0 n e : Int}
theorem gWe_loc : gLoc (gWe l f u) := by
  refine ⟨fun a b r i hr e => ?_, fun a b r i hr e => ?_⟩
  · unfold rgL rgS rgV rgF at hr
    unfold gWe
    rw [e 294 (by decide) (by decide), e 295 (by decide) (by decide), e 296 (by decide) (by decide), e 298 (by decide) (by decide), e 299 (by decide) (by decide), e r (by omega) (by omega), if_neg (show ¬ r = 306 by omega), if_neg (show ¬ r = 309 by omega), if_neg (show ¬ r = 306 by omega), if_neg (show ¬ r = 309 by omega)]
  · unfold rgC at hr
    unfold gWe
    rw [e 305 (by decide) (by decide), e 306 (by decide) (by decide), e 308 (by decide) (by decide), e 309 (by decide) (by decide), e r (by omega) (by omega), if_neg (show ¬ r = 295 by omega), if_neg (show ¬ r = 296 by omega), if_neg (show ¬ r = 299 by omega), if_neg (show ¬ r = 295 by omega), if_neg (show ¬ r = 296 by omega), if_neg (show ¬ r = 299 by omega)]
theorem tOe_sx : sx a (tOe a l f u e) := fun k r i z => (if_neg (fun w => by rw [w.1] at z; cases z)).trans (if_neg (fun w => by rw [w.1] at z; cases z))
theorem tO_o {k : Nat} {r i : Int} (n : ¬ (k = 2 ∧ (r = 283 ∨ r = 284))) : tO a l f u k r i = a k r i := by
  unfold tO tOe
  rw [if_neg (fun w => n ⟨w.1, Or.inr w.2.1⟩), if_neg (fun w => n ⟨w.1, Or.inl w.2.1⟩)]
theorem tO_l {i : Int} : tO a l f u 2 284 i = if i = l then a 2 284 l - (u - f) else a 2 284 i := by
  unfold tO tOe
  by_cases z : i = l
  · rw [if_pos z, if_pos ⟨rfl, rfl, z⟩]
  · rw [if_neg z, if_neg (fun w => z w.2.2), if_neg (fun w => absurd w.2.1 (by decide))]
theorem tO_s {i : Int} : tO a l f u 2 283 i = if 80 * l + f ≤ i ∧ i < 80 * l + (a 2 284 l - (u - f)) then a 2 283 (i + u - f) else a 2 283 i := by
  unfold tO tOe
  rw [if_neg (fun w => absurd w.2.1 (by decide))]
  by_cases z : 80 * l + f ≤ i ∧ i < 80 * l + (a 2 284 l - (u - f))
  · rw [if_pos z, if_pos ⟨rfl, rfl, z⟩]
  · rw [if_neg z, if_neg (fun w => z w.2.2)]
theorem tO_eqTx : eqTx a (tO a l f u) := fun k r i n _ => tO_o (fun w => n ⟨w.1, by omega⟩)
theorem tO_bd (bd : bdP a) : bdP (tO a l f u) := by
  refine ⟨fun r i hr u v => ?_, fun r i hr u v => ?_⟩
  · rw [tO_o (fun w => by unfold rgL rgS rgV rgF at hr; omega)]
    exact bd.1 r i hr u v
  · rw [tO_o (fun w => by unfold rgC at hr; omega)]
    exact bd.2 r i hr u v
theorem weX_in (hf : 0 ≤ f ∧ f < u) : weX l f u l0 X ≤ max X f ∧ min X f ≤ weX l f u l0 X := by
  unfold weX
  split
  · split
    · split <;> omega
    · omega
  · omega
/-- the reference's loops -/
theorem M_went (sM : shModel h) (bd : bdP h) (hl : 0 ≤ l ∧ l < 60) (hf : 0 ≤ f ∧ f < u) (hu : u ≤ h 2 284 l) (h80 : h 2 284 l ≤ 80) {x4 x5 : Int} : vrun mX13_remove 92 [(1, 282), (0, l), (0, f), (0, u), (0, x4), (0, x5), (0, 80 * l + f)] [] (vup h 2 284 l (h 2 284 l - (u - f))) = vret vrun mX13_remove 364 [(1, 282), (0, l), (0, f), (0, u), (0, x4), (0, x5), (0, 4)] [] (vcl mX13_dropsEmpty [(1, 282)] (tWe h l f u)) := by
  have t1 : ∀ (k : Nat) (e : Int), e + k = 80 * l + (h 2 284 l - (u - f)) → 80 * l + f ≤ e → vrun mX13_remove 92 [(1, 282), (0, l), (0, f), (0, u), (0, x4), (0, x5), (0, e)] [] (tOe h l f u e) = vrun mX13_remove 135 [(1, 282), (0, l), (0, f), (0, u), (0, x4), (0, x5), (0, 0)] [] (tO h l f u) := by
    intro k
    induction k with
    | zero =>
      intro e he h6
      have s1 := shModel_sx (tOe_sx (a := h) (l := l) (f := f) (u := u) (e := e)) sM
      have e2 : tOe h l f u e 2 284 l = h 2 284 l - (u - f) := if_pos ⟨rfl, rfl, rfl⟩
      refine (rX13_remove_92 (by omega) (by omega) s1 hl.1 hl.2 (by omega) (by omega) (by omega) (by omega) (by omega) (by omega) (by omega) (by omega) (by omega) (by omega)).trans ((if_pos (by omega)).trans ?_)
      unfold tO
      rw [show e = 80 * l + (h 2 284 l - (u - f)) by omega]
    | succ k ih =>
      intro e he h6
      have s1 := shModel_sx (tOe_sx (a := h) (l := l) (f := f) (u := u) (e := e)) sM
      have e2 : tOe h l f u e 2 284 l = h 2 284 l - (u - f) := if_pos ⟨rfl, rfl, rfl⟩
      refine (rX13_remove_92 (by omega) (by omega) s1 hl.1 hl.2 (by omega) (by omega) (by omega) (by omega) (by omega) (by omega) (by omega) (by omega) (by omega) (by omega)).trans ((if_neg (by omega)).trans ?_)
      have e3 : vup (tOe h l f u e) 2 283 e (tOe h l f u e 2 283 (e + u - f)) = tOe h l f u (e + 1) := by
        have e4 : tOe h l f u e 2 283 (e + u - f) = h 2 283 (e + u - f) := by
          unfold tOe
          rw [if_neg (fun w => absurd w.2.1 (by decide)), if_neg (by omega)]
        rw [e4]
        funext kk r i
        unfold vup tOe
        by_cases z : kk = 2 ∧ r = 283 ∧ i = e
        · rw [if_pos z, if_neg (by omega), if_pos (by omega), z.2.2]
        · rw [if_neg z]
          by_cases y : kk = 2 ∧ r = 284 ∧ i = l
          · rw [if_pos y, if_pos y]
          · rw [if_neg y, if_neg y]
            by_cases w : kk = 2 ∧ r = 283 ∧ 80 * l + f ≤ i ∧ i < e
            · rw [if_pos w, if_pos (by omega)]
            · rw [if_neg w, if_neg (by omega)]
      have e5 := ih (e + 1) (by omega) (by omega)
      rw [← e3] at e5
      exact e5
  have z0 : vup h 2 284 l (h 2 284 l - (u - f)) = tOe h l f u (80 * l + f) := by
    funext kk r i
    unfold vup tOe
    by_cases y : kk = 2 ∧ r = 284 ∧ i = l
    · rw [if_pos y, if_pos y]
    · rw [if_neg y, if_neg y, if_neg (by omega)]
  have sI : shModel (tO h l f u) := shModel_sx tOe_sx sM
  have gI : ∀ r i, (rgL r ∨ rgC r) → tO h l f u 2 r i = h 2 r i := fun r i hr => tO_o (fun w => by
    unfold rgL rgS rgV rgF rgC at hr
    omega)
  have ew : ∀ (H : vH) (X : Int), fX13_without H X f u = if f < X then (if u ≤ X then X - (u - f) else f) else X := fun H X => rfl
  have t2 : ∀ (k : Nat) (j : Int), j + k = 24 → 0 ≤ j → vrun mX13_remove 135 [(1, 282), (0, l), (0, f), (0, u), (0, x4), (0, x5), (0, j)] [] (mp (tO h l f u) rgL 0 j (gWe l f u (tO h l f u))) = vrun mX13_remove 271 [(1, 282), (0, l), (0, f), (0, u), (0, x4), (0, x5), (0, 0)] [] (mp (tO h l f u) rgL 0 24 (gWe l f u (tO h l f u))) := by
    intro k
    induction k with
    | zero =>
      intro j hj h0
      have ej : j = 24 := by omega
      subst ej
      exact (rX13_remove_135 (shModel_sx mp_sx sI) (by omega) (by omega) (by omega) (by omega) (by omega) (by omega) (by omega) (by omega) (by omega) (by omega) (by omega) (by omega) (by omega)).trans (if_pos (by omega))
    | succ k ih =>
      intro j hj h0
      have rd : ∀ r, mp (tO h l f u) rgL 0 j (gWe l f u (tO h l f u)) 2 r j = tO h l f u 2 r j := fun r => mp_i (by omega)
      have b1 := bd.1 295 j (Or.inl (by unfold rgS; decide)) h0 (by omega)
      have b2 := bd.1 296 j (Or.inl (by unfold rgS; decide)) h0 (by omega)
      have b3 := bd.1 299 j (Or.inr (Or.inl (by unfold rgV; decide))) h0 (by omega)
      rw [← gI 295 j (Or.inl (Or.inl (by unfold rgS; decide)))] at b1
      rw [← gI 296 j (Or.inl (Or.inl (by unfold rgS; decide)))] at b2
      rw [← gI 299 j (Or.inl (Or.inr (Or.inl (by unfold rgV; decide))))] at b3
      have e0 := rX13_remove_135 (x1 := l) (x2 := f) (x3 := u) (x4 := x4) (x5 := x5) (x6 := j) (h := mp (tO h l f u) rgL 0 j (gWe l f u (tO h l f u))) (shModel_sx mp_sx sI) (by omega)
      rw [rd, rd, rd, rd, rd] at e0
      refine (e0 (by omega) (by omega) (by omega) (by omega) (by omega) (by omega) (by omega) (by omega) (by omega) (by omega) (by omega) (by omega)).trans ((if_neg (by omega)).trans ?_)
      simp only [ew]
      refine Eq.trans (congrArg _ ?_) (ih (j + 1) (by omega) (by omega))
      refine mp_next h0 (fun r hr => ?_) (fun k r i n => ?_)
      · unfold rgL rgS rgV rgF at hr
        rcases (show r = 294 ∨ r = 295 ∨ r = 296 ∨ r = 298 ∨ r = 299 ∨ r = 302 ∨ r = 303 by omega) with e | e | e | e | e | e | e <;> subst e
        · exact (vup_r (by decide)).trans ((vup_r (by decide)).trans ((vup_r (by decide)).trans (rd _)))
        · exact (vup_r (by decide)).trans ((vup_r (by decide)).trans vup_s)
        · exact (vup_r (by decide)).trans vup_s
        · exact (vup_r (by decide)).trans ((vup_r (by decide)).trans ((vup_r (by decide)).trans (rd _)))
        · exact vup_s
        · exact (vup_r (by decide)).trans ((vup_r (by decide)).trans ((vup_r (by decide)).trans (rd _)))
        · exact (vup_r (by decide)).trans ((vup_r (by decide)).trans ((vup_r (by decide)).trans (rd _)))
      · have m : ∀ q : Int, rgL q → ¬ (k = 2 ∧ r = q ∧ i = j) := fun q hq z => n ⟨z.1, by rw [z.2.1]; exact hq, z.2.2⟩
        unfold vup
        rw [if_neg (m _ (by unfold rgL rgS rgV rgF; decide)), if_neg (m _ (by unfold rgL rgS rgV rgF; decide)), if_neg (m _ (by unfold rgL rgS rgV rgF; decide))]
  have t3 : ∀ (k : Nat) (j : Int), j + k = 4 → 0 ≤ j → vrun mX13_remove 271 [(1, 282), (0, l), (0, f), (0, u), (0, x4), (0, x5), (0, j)] [] (mp (mp (tO h l f u) rgL 0 24 (gWe l f u (tO h l f u))) rgC 0 j (gWe l f u (tO h l f u))) = vret vrun mX13_remove 364 [(1, 282), (0, l), (0, f), (0, u), (0, x4), (0, x5), (0, 4)] [] (vcl mX13_dropsEmpty [(1, 282)] (tWe h l f u)) := by
    intro k
    induction k with
    | zero =>
      intro j hj h0
      have ej : j = 4 := by omega
      subst ej
      exact (rX13_remove_271 (shModel_sx (sx_tr mp_sx mp_sx) sI) (by omega) (by omega) (by omega) (by omega) (by omega) (by omega) (by omega) (by omega) (by omega)).trans (if_pos (by omega))
    | succ k ih =>
      intro j hj h0
      have rd : ∀ r, rgC r → mp (mp (tO h l f u) rgL 0 24 (gWe l f u (tO h l f u))) rgC 0 j (gWe l f u (tO h l f u)) 2 r j = tO h l f u 2 r j := fun r hr => (mp_i (by omega)).trans (mp_r (by unfold rgC at hr; unfold rgL rgS rgV rgF; omega))
      have r1 := rd 305 (by unfold rgC; decide)
      have r2 := rd 306 (by unfold rgC; decide)
      have r3 := rd 308 (by unfold rgC; decide)
      have r4 := rd 309 (by unfold rgC; decide)
      have b1 := bd.2 306 j (by unfold rgC; decide) h0 (by omega)
      have b2 := bd.2 309 j (by unfold rgC; decide) h0 (by omega)
      rw [← gI 306 j (Or.inr (by unfold rgC; decide))] at b1
      rw [← gI 309 j (Or.inr (by unfold rgC; decide))] at b2
      have e0 := rX13_remove_271 (x1 := l) (x2 := f) (x3 := u) (x4 := x4) (x5 := x5) (x6 := j) (h := mp (mp (tO h l f u) rgL 0 24 (gWe l f u (tO h l f u))) rgC 0 j (gWe l f u (tO h l f u))) (shModel_sx (sx_tr mp_sx mp_sx) sI) (by omega)
      rw [r1, r2, r3, r4] at e0
      refine (e0 (by omega) (by omega) (by omega) (by omega) (by omega) (by omega) (by omega) (by omega)).trans ((if_neg (by omega)).trans ?_)
      simp only [ew]
      refine Eq.trans (congrArg _ ?_) (ih (j + 1) (by omega) (by omega))
      refine mp_next h0 (fun r hr => ?_) (fun k r i n => ?_)
      · unfold rgC at hr
        rcases hr with e | e | e | e <;> subst e
        · exact (vup_r (by decide)).trans ((vup_r (by decide)).trans r1)
        · exact (vup_r (by decide)).trans vup_s
        · exact (vup_r (by decide)).trans ((vup_r (by decide)).trans r3)
        · exact vup_s
      · have m : ∀ q : Int, rgC q → ¬ (k = 2 ∧ r = q ∧ i = j) := fun q hq z => n ⟨z.1, by rw [z.2.1]; exact hq, z.2.2⟩
        unfold vup
        rw [if_neg (m _ (by unfold rgC; decide)), if_neg (m _ (by unfold rgC; decide))]
  have z1 := t1 (h 2 284 l - u).toNat (80 * l + f) (by omega) (Int.le_refl _)
  have z2 := t2 24 0 (by decide) (by decide)
  have z3 := t3 4 0 (by decide) (by decide)
  rw [mp_0] at z2 z3
  rw [z0]
  exact z1.trans (z2.trans z3)
theorem dEk_sx : ∀ (k : Nat) (a : vH), sx a (dEk p k a)
  | 0, _ => sx_rf
  | k + 1, a => by
    unfold dEk
    split
    · exact sx_tr dR_sx (dEk_sx k _)
    · exact dEk_sx k _
/-- outside of the spans of a pane nothing changes -/
theorem dEk_o {i : Int} {kk : Nat} {r : Int} (hp : 0 ≤ p ∧ p < 4) (n : ¬ (kk = 2 ∧ (r = 293 ∧ i = p ∨ 294 ≤ r ∧ r ≤ 296 ∧ 6 * p ≤ i ∧ i < 6 * p + 6))) : ∀ (k : Nat) (a : vH), a 2 293 p ≤ 6 → (k : Int) ≤ a 2 293 p → dEk p k a kk r i = a kk r i
  | 0, _, _, _ => rfl
  | k + 1, a, h6, hk => by
    have e1 : dR a p 0 k kk r i = a kk r i := by
      unfold dR
      rw [if_neg (by omega), if_neg (by
        have : a 2 (293 + 4 * 0) p = a 2 293 p := rfl
        omega)]
    have e2 : dR a p 0 k 2 293 p = a 2 293 p - 1 := if_pos ⟨rfl, rfl, rfl⟩
    unfold dEk
    split
    · rw [dEk_o hp n k _ (by omega) (by omega), e1]
    · exact dEk_o hp n k a h6 (by omega)
theorem dE_o {i : Int} {kk : Nat} {r : Int} (hp : 0 ≤ p ∧ p < 4) (n6 : 0 ≤ a 2 293 p ∧ a 2 293 p ≤ 6) (n : ¬ (kk = 2 ∧ (r = 293 ∧ i = p ∨ 294 ≤ r ∧ r ≤ 296 ∧ 6 * p ≤ i ∧ i < 6 * p + 6))) : dE a p kk r i = a kk r i := dEk_o hp n _ a n6.2 (by omega)
theorem M_dropsEk (hp : 0 ≤ p ∧ p < 4) : ∀ (k : Nat) (a : vH), shModel a → a 2 293 p ≤ 6 → (k : Int) ≤ a 2 293 p → vrun mX13_dropsEmpty 16 [(1, 282), (0, p), (0, (k : Int) - 1)] [] a = vrun mX13_dropsEmpty 2 [(1, 282), (0, p + 1), (0, -1)] [] (dEk p k a)
  | 0, a, sM, h6, _ => by
    refine (rX13_dropsEmpty_16 (by omega) (by omega) sM (by omega) (by omega) (by omega) (by omega) (by omega) (by omega)).trans ((if_pos (by omega)).trans ?_)
    rfl
  | k + 1, a, sM, h6, hk => by
    have e2 : dR a p 0 k 2 293 p = a 2 293 p - 1 := if_pos ⟨rfl, rfl, rfl⟩
    rw [show ((k + 1 : Nat) : Int) - 1 = (k : Int) by omega]
    refine (rX13_dropsEmpty_16 (by omega) (by omega) sM (by omega) (by omega) (by omega) (by omega) (by omega) (by omega)).trans ((if_neg (by omega)).trans ?_)
    unfold dEk
    by_cases z : a 2 295 (6 * p + k) = a 2 296 (6 * p + k)
    · rw [if_pos z, if_pos z]
      have ih := M_dropsEk hp k (dR a p 0 k) (shModel_sx dR_sx sM) (by omega) (by omega)
      exact (vret_n (M_dropsSpan sM hp (j := (k : Int)) ⟨by omega, by omega⟩ h6)).trans ((rX13_dropsEmpty_51 (by omega) (by omega)).trans ih)
    · rw [if_neg z, if_neg z]
      exact M_dropsEk hp k a sM h6 (by omega)
theorem M_dropsEmpty (sM : shModel a) (n6 : ∀ q, 0 ≤ q → q < 4 → 0 ≤ a 2 293 q ∧ a 2 293 q ≤ 6) : vcl mX13_dropsEmpty [(1, 282)] a = some (.inl none, dE (dE (dE (dE a 0) 1) 2) 3) := by
  have stp : ∀ (p : Int) (b : vH) (v2 : vv), 0 ≤ p → p < 4 → shModel b → 0 ≤ b 2 293 p ∧ b 2 293 p ≤ 6 → vrun mX13_dropsEmpty 2 [(1, 282), (0, p), v2] [] b = vrun mX13_dropsEmpty 2 [(1, 282), (0, p + 1), (0, -1)] [] (dE b p) := fun p b v2 u v sb nb => by
    refine (rX13_dropsEmpty_2 sb (by omega) (by omega) (by omega)).trans ((if_neg (by omega)).trans ?_)
    have := M_dropsEk (p := p) ⟨u, v⟩ (b 2 293 p).toNat b sb nb.2 (by omega)
    rw [show (((b 2 293 p).toNat : Nat) : Int) = b 2 293 p by omega] at this
    exact this
  have k0 := n6 0 (by decide) (by decide)
  have c1 : dE a 0 2 293 1 = a 2 293 1 := dE_o (by decide) k0 (by decide)
  have k1 := n6 1 (by decide) (by decide)
  rw [← c1] at k1
  have c2 : dE (dE a 0) 1 2 293 2 = a 2 293 2 := (dE_o (by decide) k1 (by decide)).trans (dE_o (by decide) k0 (by decide))
  have k2 := n6 2 (by decide) (by decide)
  rw [← c2] at k2
  have c3 : dE (dE (dE a 0) 1) 2 2 293 3 = a 2 293 3 := (dE_o (by decide) k2 (by decide)).trans ((dE_o (by decide) k1 (by decide)).trans (dE_o (by decide) k0 (by decide)))
  have k3 := n6 3 (by decide) (by decide)
  rw [← c3] at k3
  have s1 : shModel (dE a 0) := shModel_sx (dEk_sx _ _) sM
  have s2 : shModel (dE (dE a 0) 1) := shModel_sx (dEk_sx _ _) s1
  have s3 : shModel (dE (dE (dE a 0) 1) 2) := shModel_sx (dEk_sx _ _) s2
  have s4 : shModel (dE (dE (dE (dE a 0) 1) 2) 3) := shModel_sx (dEk_sx _ _) s3
  refine (show _ = _ from rX13_dropsEmpty_0).trans ((stp 0 a _ (by decide) (by decide) sM k0).trans ((stp 1 _ _ (by decide) (by decide) s1 k1).trans ((stp 2 _ _ (by decide) (by decide) s2 k2).trans ((stp 3 _ _ (by decide) (by decide) s3 k3).trans ?_))))
  exact (rX13_dropsEmpty_2 s4 (by omega) (by omega) (by omega)).trans (if_pos (by decide))
end WNT
