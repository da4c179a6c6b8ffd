/-! a line is broken: the reference -/
/-- a line is copied, up to the sign e -/
def cpLe (a : vH) (f t e : Int) : vH := fun k r i => if k = 2 ∧ r = 285 ∧ i = t then a 2 285 f else if k = 2 ∧ r = 284 ∧ i = t then a 2 284 f else if k = 2 ∧ r = 283 ∧ 80 * t ≤ i ∧ i < 80 * t + e then a 2 283 (i - 80 * t + 80 * f) else a k r i
/-- the lines behind e are one further, up to the line m -/
def cpD (a : vH) (e m : Int) : vH := fun k r i => if k = 2 ∧ r = 285 ∧ e < i ∧ i ≤ m then a 2 285 (i - 1) else if k = 2 ∧ r = 284 ∧ e < i ∧ i ≤ m then a 2 284 (i - 1) else if k = 2 ∧ r = 283 ∧ 80 * (e + 1) ≤ i ∧ i < 80 * (m + 1) then a 2 283 (i - 80) else a k r i
/-- the text of a broken line, but for the length of the first half -/
def tBe (a : vH) (l x e : Int) : vH := fun k r i => if k = 1504 ∧ r = 282 ∧ i = 0 then a 1504 282 0 + 1 else if k = 2 ∧ r = 285 ∧ i = l + 1 then 0 else if k = 2 ∧ r = 284 ∧ i = l + 1 then a 2 284 l - x else if k = 2 ∧ r = 283 ∧ 80 * (l + 1) ≤ i ∧ i < 80 * (l + 1) + e then a 2 283 (i - 80 + x) else cpD a (l + 1) (a 1504 282 0) k r i
def tB (a : vH) (l x : Int) : vH := vup (tBe a l x (a 2 284 l - x)) 2 284 l x
def bkB (l x L X : Int) : Int := if l < L ∨ L = l ∧ ¬ (X ≤ x) then 1 else 0
def bkX (l x L X : Int) : Int := X - (if L = l then (if bkB l x L X ≤ 0 then 0 else x) else 0)
def bkL (l x L F : Int) : Int := L + (if L = l ∧ ¬ (F < x) ∨ ¬ (L ≤ l) then 1 else 0)
def bkF (l x L F : Int) : Int := F - (if L = l ∧ ¬ (F < x) then x else 0)
def bkT (l x L F T : Int) : Int := if L = l ∧ ¬ (F < x) then T - x else (if L = l then (if x ≤ T then x else T) else T)
def gBk (l x : Int) (a : vH) (r i : Int) : Int := if r = 294 then bkL l x (a 2 294 i) (a 2 295 i) else if r = 295 then bkF l x (a 2 294 i) (a 2 295 i) else if r = 296 then bkT l x (a 2 294 i) (a 2 295 i) (a 2 296 i) else if r = 298 then a 2 298 i + bkB l x (a 2 298 i) (a 2 299 i) else if r = 299 then bkX l x (a 2 298 i) (a 2 299 i) else if r = 302 then a 2 302 i + (if ¬ (a 2 302 i ≤ l) then 1 else 0) else if r = 303 then a 2 303 i + (if ¬ (a 2 303 i < l) then 1 else 0) else if r = 305 then a 2 305 i + bkB l x (a 2 305 i) (a 2 306 i) else if r = 306 then bkX l x (a 2 305 i) (a 2 306 i) else if r = 308 then a 2 308 i + bkB l x (a 2 308 i) (a 2 309 i) else if r = 309 then bkX l x (a 2 308 i) (a 2 309 i) else a 2 r i
noncomputable def tBk (a : vH) (l x : Int) : vH := TT (gBk l x) (tB a l x) 4
section BRK
variable {h h2 a b : vH} {p q P Q X l x s f u t j st r l0 x0 n e m : Int}
theorem gBk_loc : gLoc (gBk l x) := by
  refine ⟨fun a b r i hr e => ?_, fun a b r i hr e => ?_⟩
  · unfold rgL rgS rgV rgF at hr
    unfold gBk
    rw [e 294 (by decide) (by decide), e 295 (by decide) (by decide), e 296 (by decide) (by decide), e 298 (by decide) (by decide), e 299 (by decide) (by decide), e 302 (by decide) (by decide), e 303 (by decide) (by decide), e r (by omega) (by omega)]
    rw [if_neg (show ¬ r = 305 by omega), if_neg (show ¬ r = 306 by omega), if_neg (show ¬ r = 308 by omega), if_neg (show ¬ r = 309 by omega), if_neg (show ¬ r = 305 by omega), if_neg (show ¬ r = 306 by omega), if_neg (show ¬ r = 308 by omega), if_neg (show ¬ r = 309 by omega)]
  · unfold rgC at hr
    unfold gBk
    rw [e 305 (by decide) (by decide), e 306 (by decide) (by decide), e 308 (by decide) (by decide), e 309 (by decide) (by decide), e r (by omega) (by omega)]
    rw [if_neg (show ¬ r = 294 by omega), if_neg (show ¬ r = 295 by omega), if_neg (show ¬ r = 296 by omega), if_neg (show ¬ r = 298 by omega), if_neg (show ¬ r = 299 by omega), if_neg (show ¬ r = 302 by omega), if_neg (show ¬ r = 303 by omega), if_neg (show ¬ r = 294 by omega), if_neg (show ¬ r = 295 by omega), if_neg (show ¬ r = 296 by omega), if_neg (show ¬ r = 298 by omega), if_neg (show ¬ r = 299 by omega), if_neg (show ¬ r = 302 by omega), if_neg (show ¬ r = 303 by omega)]
theorem n2k {k : Nat} (z : stk k = true) : ¬ k = 2 ∧ ¬ k = 1504 := ⟨fun w => (by rw [w] at z; cases z), fun w => (by rw [w] at z; cases z)⟩
theorem cpLe_sx : sx a (cpLe a f t e) := fun k r i z => by
  have n := n2k z
  unfold cpLe
  rw [if_neg (fun w => n.1 w.1), if_neg (fun w => n.1 w.1), if_neg (fun w => n.1 w.1)]
theorem cpD_sx : sx a (cpD a e m) := fun k r i z => by
  have n := n2k z
  unfold cpD
  rw [if_neg (fun w => n.1 w.1), if_neg (fun w => n.1 w.1), if_neg (fun w => n.1 w.1)]
theorem tBe_sx : sx a (tBe a l x e) := fun k r i z => by
  have n := n2k z
  unfold tBe
  rw [if_neg (fun w => n.2 w.1), if_neg (fun w => n.1 w.1), if_neg (fun w => n.1 w.1), if_neg (fun w => n.1 w.1)]
  exact cpD_sx k r i z
theorem tB_sx : sx a (tB a l x) := sx_up rfl tBe_sx
theorem M_copies (sM : shModel h) (hf : 0 ≤ f ∧ f < 60) (ht : 0 ≤ t ∧ t < 60) (n : ¬ f = t) (mk : h 2 285 f = 0 ∨ h 2 285 f = 1) : vcl mX13_copiesLine [(1, 282), (0, f), (0, t)] h = some (.inl none, cpLe h f t 80) := by
  have loop : ∀ (k : Nat) (e : Int), e + k = 80 → 0 ≤ e → vrun mX13_copiesLine 26 [(1, 282), (0, f), (0, t), (0, e)] [] (cpLe h f t e) = some (.inl none, cpLe h f t 80) := by
    intro k
    induction k with
    | zero =>
      intro e he h0
      rw [show e = 80 by omega]
      exact (rX13_copiesLine_26 (shModel_sx cpLe_sx sM) (by omega) (by omega) (by omega) (by omega) (by omega) (by omega) (by omega) (by omega) (by omega) (by omega) (by omega) (by omega) (by omega)).trans (if_pos (by decide))
    | succ k ih =>
      intro e he h0
      refine (rX13_copiesLine_26 (shModel_sx cpLe_sx sM) (by omega) (by omega) (by omega) (by omega) (by omega) (by omega) (by omega) (by omega) (by omega) (by omega) (by omega) (by omega) (by omega)).trans ((if_neg (by omega)).trans ?_)
      have e3 : vup (cpLe h f t e) 2 283 (80 * t + e) (cpLe h f t e 2 283 (80 * f + e)) = cpLe h f t (e + 1) := by
        have e4 : cpLe h f t e 2 283 (80 * f + e) = h 2 283 (80 * f + e) := by
          unfold cpLe
          rw [if_neg (fun w => absurd w.2.1 (by decide)), if_neg (fun w => absurd w.2.1 (by decide)), if_neg (by omega)]
        rw [e4]
        funext kk r i
        unfold vup cpLe
        by_cases z : kk = 2 ∧ r = 283 ∧ i = 80 * t + e
        · rw [if_pos z, if_neg (by omega), if_neg (by omega), if_pos (by omega), z.2.2, show 80 * t + e - 80 * t + 80 * f = 80 * f + e by omega]
        · rw [if_neg z]
          by_cases y : kk = 2 ∧ r = 285 ∧ i = t
          · rw [if_pos y, if_pos y]
          · rw [if_neg y, if_neg y]
            by_cases y2 : kk = 2 ∧ r = 284 ∧ i = t
            · rw [if_pos y2, if_pos y2]
            · rw [if_neg y2, if_neg y2]
              by_cases w : kk = 2 ∧ r = 283 ∧ 80 * t ≤ i ∧ i < 80 * t + e
              · rw [if_pos w, if_pos (by omega)]
              · rw [if_neg w, if_neg (by omega)]
      have e5 := ih (e + 1) (by omega) (by omega)
      rw [← e3] at e5
      exact e5
  have z0 : vup (vup h 2 284 t (h 2 284 f)) 2 285 t (h 2 285 f) = cpLe h f t 0 := by
    funext kk r i
    unfold vup cpLe
    by_cases y : kk = 2 ∧ r = 285 ∧ i = t
    · rw [if_pos y, if_pos y]
    · rw [if_neg y, if_neg y]
      by_cases y2 : kk = 2 ∧ r = 284 ∧ i = t
      · rw [if_pos y2, if_pos y2]
      · rw [if_neg y2, if_neg y2, if_neg (by omega)]
  refine (show _ = _ from rX13_copiesLine_0 sM hf.1 hf.2 ht.1 ht.2 mk).trans ?_
  have L := loop 80 0 (by decide) (by decide)
  rw [← z0] at L
  exact L
theorem cpD_0 : cpD a m m = a := by
  funext k r i
  unfold cpD
  rw [if_neg (by omega), if_neg (by omega), if_neg (by omega)]
theorem cpD_up (hm : e ≤ m) : cpLe (cpD a e m) (e - 1) e 80 = cpD a (e - 1) m := by
  funext k r i
  unfold cpLe
  by_cases y1 : k = 2 ∧ r = 285 ∧ i = e
  · rw [if_pos y1]
    unfold cpD
    rw [if_neg (by omega), if_neg (by omega), if_neg (by omega), if_pos (by omega), y1.2.2]
  · rw [if_neg y1]
    by_cases y2 : k = 2 ∧ r = 284 ∧ i = e
    · rw [if_pos y2]
      unfold cpD
      rw [if_neg (by omega), if_neg (by omega), if_neg (by omega), if_neg (by omega), if_pos (by omega), y2.2.2]
    · rw [if_neg y2]
      by_cases y3 : k = 2 ∧ r = 283 ∧ 80 * e ≤ i ∧ i < 80 * e + 80
      · rw [if_pos y3]
        unfold cpD
        rw [if_neg (by omega), if_neg (by omega), if_neg (by omega), if_neg (by omega), if_neg (by omega), if_pos (by omega), show i - 80 * e + 80 * (e - 1) = i - 80 by omega]
      · rw [if_neg y3]
        unfold cpD
        by_cases z1 : k = 2 ∧ r = 285 ∧ e < i ∧ i ≤ m
        · rw [if_pos z1, if_pos (by omega)]
        · rw [if_neg z1, if_neg (show ¬ (k = 2 ∧ r = 285 ∧ e - 1 < i ∧ i ≤ m) by omega)]
          by_cases z2 : k = 2 ∧ r = 284 ∧ e < i ∧ i ≤ m
          · rw [if_pos z2, if_pos (by omega)]
          · rw [if_neg z2, if_neg (show ¬ (k = 2 ∧ r = 284 ∧ e - 1 < i ∧ i ≤ m) by omega)]
            by_cases z3 : k = 2 ∧ r = 283 ∧ 80 * (e + 1) ≤ i ∧ i < 80 * (m + 1)
            · rw [if_pos z3, if_pos (by omega)]
            · rw [if_neg z3, if_neg (by omega)]
theorem M_breaks (sM : shModel a) (bd : bdP a) (hx : 0 ≤ x ∧ x ≤ 80) : vcl mX13_breaksLayers [(1, 282), (0, l), (0, x)] a = some (.inl none, TT (gBk l x) a 4) := by
  have ew : ∀ (H : vH) (L X : Int), fX13_later H L X l x = bkB l x L X := fun H L X => rfl
  have bB : ∀ L X, 0 ≤ bkB l x L X ∧ bkB l x L X ≤ 1 := fun L X => by
    unfold bkB
    split <;> decide
  have bX : ∀ L X, X - 80 ≤ bkX l x L X ∧ bkX l x L X ≤ X := fun L X => by
    unfold bkX
    split
    · split <;> omega
    · omega
  have t2 : ∀ (k : Nat) (j : Int) (v4 v5 : vv), j + k = 24 → 0 ≤ j → ∃ v4' v5', vrun mX13_breaksLayers 2 [(1, 282), (0, l), (0, x), (0, j), v4, v5] [] (mp a rgL 0 j (gBk l x a)) = vrun mX13_breaksLayers 249 [(1, 282), (0, l), (0, x), (0, 0), v4', v5'] [] (mp a rgL 0 24 (gBk l x a)) := by
    intro k
    induction k with
    | zero =>
      intro j v4 v5 hj h0
      have ej : j = 24 := by omega
      subst ej
      exact ⟨v4, v5, (rX13_breaksLayers_2 (shModel_sx mp_sx sM) (by omega) (by omega) (by omega) (by omega) (by omega) (by omega) (by omega) (by omega) (by omega) (by omega) (by omega) (by omega) (by omega) (by omega) (by omega)).trans (if_pos (by omega))⟩
    | succ k ih =>
      intro j v4 v5 hj h0
      have rd : ∀ r, mp a rgL 0 j (gBk l x a) 2 r j = a 2 r j := fun r => mp_i (by omega)
      have b0 := bd.1 294 j (Or.inl (by unfold rgS; decide)) h0 (by omega)
      have b1 := bd.1 295 j (Or.inl (by unfold rgS; decide)) h0 (by omega)
      have b2 := bd.1 296 j (Or.inl (by unfold rgS; decide)) h0 (by omega)
      have b3 := bd.1 299 j (Or.inr (Or.inl (by unfold rgV; decide))) h0 (by omega)
      have b4 := bd.1 298 j (Or.inr (Or.inl (by unfold rgV; decide))) h0 (by omega)
      have b5 := bd.1 302 j (Or.inr (Or.inr (by unfold rgF; decide))) h0 (by omega)
      have b6 := bd.1 303 j (Or.inr (Or.inr (by unfold rgF; decide))) h0 (by omega)
      have e0 := rX13_breaksLayers_2 (x1 := l) (x2 := x) (x3 := j) (v4 := v4) (v5 := v5) (h := mp a rgL 0 j (gBk l x a)) (shModel_sx mp_sx sM) (by omega)
      simp only [ew] at e0
      rw [rd 296, rd 294, rd 295, rd 299, rd 298, rd 302, rd 303] at e0
      have c1 := bB (a 2 298 j) (a 2 299 j)
      have c2 := bX (a 2 298 j) (a 2 299 j)
      unfold bkX at c2
      have e1 := e0 (fun _ _ => by omega) (fun _ _ => by omega) (fun _ => by split <;> omega) (fun _ => by split <;> omega) (fun _ => by split <;> omega) (fun _ => by split <;> omega) (fun _ => by omega) (fun _ => by omega) (fun _ => by omega) (fun _ => by omega) (fun _ => by split <;> omega) (fun _ => by split <;> omega) (fun _ => by split <;> omega) (fun _ => by split <;> omega)
      obtain ⟨v4', v5', q⟩ := ih (j + 1) _ _ (by omega) (by omega)
      refine ⟨v4', v5', e1.trans ((if_neg (by omega)).trans (Eq.trans (congrArg _ ?_) q))⟩
      refine mp_next h0 (fun r hr => ?_) (fun k r i n => ?_)
      · unfold rgL rgS rgV rgF at hr
        rcases (show r = 294 ∨ r = 295 ∨ r = 296 ∨ r = 298 ∨ r = 299 ∨ r = 302 ∨ r = 303 by omega) with e | e | e | e | e | e | e <;> subst e
        · exact (vup_r (by decide)).trans ((vup_r (by decide)).trans ((vup_r (by decide)).trans ((vup_r (by decide)).trans vup_s)))
        · exact (vup_r (by decide)).trans ((vup_r (by decide)).trans ((vup_r (by decide)).trans ((vup_r (by decide)).trans ((vup_r (by decide)).trans vup_s))))
        · exact (vup_r (by decide)).trans ((vup_r (by decide)).trans ((vup_r (by decide)).trans ((vup_r (by decide)).trans ((vup_r (by decide)).trans ((vup_r (by decide)).trans vup_s)))))
        · exact (vup_r (by decide)).trans ((vup_r (by decide)).trans vup_s)
        · exact (vup_r (by decide)).trans ((vup_r (by decide)).trans ((vup_r (by decide)).trans vup_s))
        · exact (vup_r (by decide)).trans vup_s
        · exact vup_s
      · have m : ∀ q : Int, rgL q → ¬ (k = 2 ∧ r = q ∧ i = j) := fun q hq z => n ⟨z.1, by rw [z.2.1]; exact hq, z.2.2⟩
        unfold vup
        rw [if_neg (m _ (by unfold rgL rgS rgV rgF; decide)), if_neg (m _ (by unfold rgL rgS rgV rgF; decide)), if_neg (m _ (by unfold rgL rgS rgV rgF; decide)), if_neg (m _ (by unfold rgL rgS rgV rgF; decide)), if_neg (m _ (by unfold rgL rgS rgV rgF; decide)), if_neg (m _ (by unfold rgL rgS rgV rgF; decide)), if_neg (m _ (by unfold rgL rgS rgV rgF; decide))]
  have t3 : ∀ (k : Nat) (j : Int) (v4 v5 : vv), j + k = 4 → 0 ≤ j → vrun mX13_breaksLayers 249 [(1, 282), (0, l), (0, x), (0, j), v4, v5] [] (mp (mp a rgL 0 24 (gBk l x a)) rgC 0 j (gBk l x a)) = some (.inl none, mp (mp a rgL 0 24 (gBk l x a)) rgC 0 4 (gBk l x a)) := by
    intro k
    induction k with
    | zero =>
      intro j v4 v5 hj h0
      have ej : j = 4 := by omega
      subst ej
      exact (rX13_breaksLayers_249 (shModel_sx (sx_tr mp_sx mp_sx) sM) (by omega) (by omega) (by omega) (by omega) (by omega) (by omega) (by omega) (by omega) (by omega)).trans (if_pos (by omega))
    | succ k ih =>
      intro j v4 v5 hj h0
      have rd : ∀ r, rgC r → mp (mp a rgL 0 24 (gBk l x a)) rgC 0 j (gBk l x a) 2 r j = a 2 r j := fun r hr => (mp_i (by omega)).trans (mp_r (by unfold rgC at hr; unfold rgL rgS rgV rgF; omega))
      have r1 := rd 305 (by unfold rgC; decide)
      have r2 := rd 306 (by unfold rgC; decide)
      have r3 := rd 308 (by unfold rgC; decide)
      have r4 := rd 309 (by unfold rgC; decide)
      have b1 := bd.2 306 j (by unfold rgC; decide) h0 (by omega)
      have b2 := bd.2 309 j (by unfold rgC; decide) h0 (by omega)
      have b3 := bd.2 305 j (by unfold rgC; decide) h0 (by omega)
      have b4 := bd.2 308 j (by unfold rgC; decide) h0 (by omega)
      have e0 := rX13_breaksLayers_249 (x1 := l) (x2 := x) (x3 := j) (v4 := v4) (v5 := v5) (h := mp (mp a rgL 0 24 (gBk l x a)) rgC 0 j (gBk l x a)) (shModel_sx (sx_tr mp_sx mp_sx) sM) (by omega)
      simp only [ew] at e0
      rw [r1, r2, r3, r4] at e0
      have c1 := bB (a 2 305 j) (a 2 306 j)
      have c2 := bX (a 2 305 j) (a 2 306 j)
      have c3 := bB (a 2 308 j) (a 2 309 j)
      have c4 := bX (a 2 308 j) (a 2 309 j)
      unfold bkX at c2 c4
      have e1 := e0 (fun _ => by omega) (fun _ => by omega) (fun _ => by omega) (fun _ => by omega) (fun _ => by omega) (fun _ => by omega) (fun _ => by omega) (fun _ => by omega)
      refine e1.trans ((if_neg (by omega)).trans (Eq.trans (congrArg _ ?_) (ih (j + 1) _ _ (by omega) (by omega))))
      refine mp_next h0 (fun r hr => ?_) (fun k r i n => ?_)
      · unfold rgC at hr
        rcases hr with e | e | e | e <;> subst e
        · exact (vup_r (by decide)).trans ((vup_r (by decide)).trans vup_s)
        · exact (vup_r (by decide)).trans ((vup_r (by decide)).trans ((vup_r (by decide)).trans vup_s))
        · exact vup_s
        · exact (vup_r (by decide)).trans vup_s
      · have m : ∀ q : Int, rgC q → ¬ (k = 2 ∧ r = q ∧ i = j) := fun q hq z => n ⟨z.1, by rw [z.2.1]; exact hq, z.2.2⟩
        unfold vup
        rw [if_neg (m _ (by unfold rgC; decide)), if_neg (m _ (by unfold rgC; decide)), if_neg (m _ (by unfold rgC; decide)), if_neg (m _ (by unfold rgC; decide))]
  have z3 := t3 4 0
  rw [mp_0] at z3
  obtain ⟨v4, v5, z2⟩ := t2 24 0 (9, 0) (9, 0) (by decide) (by decide)
  rw [mp_0] at z2
  exact (show _ = _ from rX13_breaksLayers_0).trans (z2.trans (z3 v4 v5 (by decide) (by decide)))
end BRK
