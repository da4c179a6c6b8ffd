/-! two lines are joined: the reference -/
def cpU (a : vH) (s e : Int) : vH := fun k r i => if k = 2 ∧ r = 285 ∧ s ≤ i ∧ i < e then a 2 285 (i + 1) else if k = 2 ∧ r = 284 ∧ s ≤ i ∧ i < e then a 2 284 (i + 1) else if k = 2 ∧ r = 283 ∧ 80 * s ≤ i ∧ i < 80 * e then a 2 283 (i + 80) else a k r i
def tJs (a : vH) (l e : Int) : vH := fun k r i => if k = 2 ∧ r = 283 ∧ 80 * l + a 2 284 l ≤ i ∧ i < 80 * l + a 2 284 l + e then a 2 283 (i + 80 - a 2 284 l) else a k r i
def tJm (a : vH) (l : Int) : vH := vup (vup (vup (tJs a l (a 2 284 (l + 1))) 2 284 l (a 2 284 l + a 2 284 (l + 1))) 2 285 l (if ¬ (a 2 285 l = 0) ∨ ¬ (a 2 285 (l + 1) = 0) then 1 else 0)) 1504 282 0 (a 1504 282 0 - 1)
def tJ (a : vH) (l : Int) : vH := cpU (tJm a l) (l + 1) (a 1504 282 0 - 1)
def jnL (l L : Int) : Int := L - (if ¬ (L ≤ l) then 1 else 0)
def jnX (l n L X : Int) : Int := X + (if L = l + 1 then n else 0)
def gJo (l n : Int) (a : vH) (r i : Int) : Int := if r = 294 then jnL l (a 2 294 i) else if r = 295 then jnX l n (a 2 294 i) (a 2 295 i) else if r = 296 then jnX l n (a 2 294 i) (a 2 296 i) else if r = 298 then jnL l (a 2 298 i) else if r = 299 then jnX l n (a 2 298 i) (a 2 299 i) else if r = 302 then jnL l (a 2 302 i) else if r = 303 then jnL l (a 2 303 i) else if r = 305 then jnL l (a 2 305 i) else if r = 306 then jnX l n (a 2 305 i) (a 2 306 i) else if r = 308 then jnL l (a 2 308 i) else if r = 309 then jnX l n (a 2 308 i) (a 2 309 i) else a 2 r i
/-- the folds of one line among the first k of a pane are dropped, from the last one down -/
def dFk (p : Int) : Nat → vH → vH
  | 0, a => a
  | k + 1, a => dFk p k (if a 2 302 (6 * p + k) = a 2 303 (6 * p + k) then dR a p 2 k else a)
def dF (a : vH) (p : Int) : vH := dFk p (a 2 301 p).toNat a
def dFn : Nat → vH → vH
  | 0, a => a
  | k + 1, a => dF (dFn k a) k
noncomputable def tJw (a : vH) (l : Int) : vH := TT (gJo l (a 2 284 l)) (tJ a l) 4
noncomputable def tJd (a : vH) (l : Int) : vH := dFn 4 (tJw a l)
section JNR
variable {h h2 a b : vH} {p q P Q X l x s f u t j st r l0 x0 n e m : Int}
theorem gJo_loc : gLoc (gJo l n) := by
  refine ⟨fun a b r i hr e => ?_, fun a b r i hr e => ?_⟩
  · unfold rgL rgS rgV rgF at hr
    unfold gJo
    rw [e 294 (by decide) (by decide), e 295 (by decide) (by decide), e 296 (by decide) (by decide), e 298 (by decide) (by decide), e 299 (by decide) (by decide), e 302 (by decide) (by decide), e 303 (by decide) (by decide), e r (by omega) (by omega)]
    rw [if_neg (show ¬ r = 305 by omega), if_neg (show ¬ r = 306 by omega), if_neg (show ¬ r = 308 by omega), if_neg (show ¬ r = 309 by omega), if_neg (show ¬ r = 305 by omega), if_neg (show ¬ r = 306 by omega), if_neg (show ¬ r = 308 by omega), if_neg (show ¬ r = 309 by omega)]
  · unfold rgC at hr
    unfold gJo
    rw [e 305 (by decide) (by decide), e 306 (by decide) (by decide), e 308 (by decide) (by decide), e 309 (by decide) (by decide), e r (by omega) (by omega)]
    rw [if_neg (show ¬ r = 294 by omega), if_neg (show ¬ r = 295 by omega), if_neg (show ¬ r = 296 by omega), if_neg (show ¬ r = 298 by omega), if_neg (show ¬ r = 299 by omega), if_neg (show ¬ r = 302 by omega), if_neg (show ¬ r = 303 by omega), if_neg (show ¬ r = 294 by omega), if_neg (show ¬ r = 295 by omega), if_neg (show ¬ r = 296 by omega), if_neg (show ¬ r = 298 by omega), if_neg (show ¬ r = 299 by omega), if_neg (show ¬ r = 302 by omega), if_neg (show ¬ r = 303 by omega)]
theorem cpU_sx : sx a (cpU a s e) := fun k r i z => by
  have n := n2k z
  unfold cpU
  rw [if_neg (fun w => n.1 w.1), if_neg (fun w => n.1 w.1), if_neg (fun w => n.1 w.1)]
theorem tJs_sx : sx a (tJs a l e) := fun k r i z => if_neg (fun w => (n2k z).1 w.1)
theorem tJm_sx : sx a (tJm a l) := sx_tr tJs_sx (sx_up rfl (sx_up rfl (sx_up rfl sx_rf)))
theorem tJ_sx : sx a (tJ a l) := sx_tr tJm_sx cpU_sx
theorem cpU_0 : cpU a s s = a := by
  funext k r i
  unfold cpU
  rw [if_neg (by omega), if_neg (by omega), if_neg (by omega)]
theorem cpU_up (hs : s ≤ e) : cpLe (cpU a s e) (e + 1) e 80 = cpU a s (e + 1) := by
  funext k r i
  unfold cpLe
  by_cases y1 : k = 2 ∧ r = 285 ∧ i = e
  · rw [if_pos y1]
    unfold cpU
    rw [if_neg (by omega), if_neg (by omega), if_neg (by omega), if_pos (by omega), y1.2.2]
  · rw [if_neg y1]
    by_cases y2 : k = 2 ∧ r = 284 ∧ i = e
    · rw [if_pos y2]
      unfold cpU
      rw [if_neg (by omega), if_neg (by omega), if_neg (by omega), if_neg (by omega), if_pos (by omega), y2.2.2]
    · rw [if_neg y2]
      by_cases y3 : k = 2 ∧ r = 283 ∧ 80 * e ≤ i ∧ i < 80 * e + 80
      · rw [if_pos y3]
        unfold cpU
        rw [if_neg (by omega), if_neg (by omega), if_neg (by omega), if_neg (by omega), if_neg (by omega), if_pos (by omega), show i - 80 * e + 80 * (e + 1) = i + 80 by omega]
      · rw [if_neg y3]
        unfold cpU
        by_cases z1 : k = 2 ∧ r = 285 ∧ s ≤ i ∧ i < e
        · rw [if_pos z1, if_pos (by omega)]
        · rw [if_neg z1, if_neg (show ¬ (k = 2 ∧ r = 285 ∧ s ≤ i ∧ i < e + 1) by omega)]
          by_cases z2 : k = 2 ∧ r = 284 ∧ s ≤ i ∧ i < e
          · rw [if_pos z2, if_pos (by omega)]
          · rw [if_neg z2, if_neg (show ¬ (k = 2 ∧ r = 284 ∧ s ≤ i ∧ i < e + 1) by omega)]
            by_cases z3 : k = 2 ∧ r = 283 ∧ 80 * s ≤ i ∧ i < 80 * e
            · rw [if_pos z3, if_pos (by omega)]
            · rw [if_neg z3, if_neg (by omega)]
theorem tJs_0 : tJs a l 0 = a := by
  funext k r i
  unfold tJs
  rw [if_neg (by omega)]
theorem tJs_up (he : 0 ≤ e) (h80 : a 2 284 l + e < 80) (h0 : 0 ≤ a 2 284 l) : vup (tJs a l e) 2 283 (80 * l + a 2 284 l + e) (tJs a l e 2 283 (80 * (l + 1) + e)) = tJs a l (e + 1) := by
  have e4 : tJs a l e 2 283 (80 * (l + 1) + e) = a 2 283 (80 * (l + 1) + e) := by
    unfold tJs
    rw [if_neg (by omega)]
  rw [e4]
  funext k r i
  unfold vup tJs
  by_cases z : k = 2 ∧ r = 283 ∧ i = 80 * l + a 2 284 l + e
  · rw [if_pos z, if_pos (by omega), z.2.2, show 80 * l + a 2 284 l + e + 80 - a 2 284 l = 80 * (l + 1) + e by omega]
  · rw [if_neg z]
    by_cases z4 : k = 2 ∧ r = 283 ∧ 80 * l + a 2 284 l ≤ i ∧ i < 80 * l + a 2 284 l + e
    · rw [if_pos z4, if_pos (by omega)]
    · rw [if_neg z4, if_neg (by omega)]
theorem M_jnText (sM : shModel h) (mk : iM h) (hl : 0 ≤ l ∧ l + 1 < h 1504 282 0) (hc : h 1504 282 0 ≤ 60) (h0 : 0 ≤ h 2 284 l ∧ 0 ≤ h 2 284 (l + 1)) (h80 : h 2 284 l + h 2 284 (l + 1) ≤ 80) {x2 : Int} : vrun mX13_join 76 [(1, 282), (0, l), (0, x2), (0, h 2 284 l), (0, 0)] [] h = vret vrun mX13_join 214 [(1, 282), (0, l), (0, x2), (0, h 2 284 l), (0, h 1504 282 0 - 1)] [] (vcl mX13_joinsLayers [(1, 282), (0, l), (0, h 2 284 l)] (tJ h l)) := by
  have n0 : tJm h l 1504 282 0 = h 1504 282 0 - 1 := vup_s
  have t2 : ∀ (k : Nat) (e : Int), e + k = h 1504 282 0 - 1 → l + 1 ≤ e → vrun mX13_join 186 [(1, 282), (0, l), (0, x2), (0, h 2 284 l), (0, e)] [] (cpU (tJm h l) (l + 1) e) = vret vrun mX13_join 214 [(1, 282), (0, l), (0, x2), (0, h 2 284 l), (0, h 1504 282 0 - 1)] [] (vcl mX13_joinsLayers [(1, 282), (0, l), (0, h 2 284 l)] (tJ h l)) := by
    intro k
    induction k with
    | zero =>
      intro e he hm
      have s1 := shModel_sx (sx_tr (tJm_sx (a := h) (l := l)) (cpU_sx (s := l + 1) (e := e))) sM
      have e1 : cpU (tJm h l) (l + 1) e 1504 282 0 = h 1504 282 0 - 1 := by
        refine Eq.trans ?_ n0
        unfold cpU
        rw [if_neg (by omega), if_neg (by omega), if_neg (by omega)]
      refine (rX13_join_186 s1 (by omega) (by omega)).trans ((if_pos (by omega)).trans ?_)
      unfold tJ
      rw [show e = h 1504 282 0 - 1 by omega]
    | succ k ih =>
      intro e he hm
      have s1 := shModel_sx (sx_tr (tJm_sx (a := h) (l := l)) (cpU_sx (s := l + 1) (e := e))) sM
      have e1 : cpU (tJm h l) (l + 1) e 1504 282 0 = h 1504 282 0 - 1 := by
        refine Eq.trans ?_ n0
        unfold cpU
        rw [if_neg (by omega), if_neg (by omega), if_neg (by omega)]
      refine (rX13_join_186 s1 (by omega) (by omega)).trans ((if_neg (by omega)).trans ?_)
      have e3 : cpU (tJm h l) (l + 1) e 2 285 (e + 1) = h 2 285 (e + 1) := by
        unfold cpU
        rw [if_neg (by omega), if_neg (by omega), if_neg (by omega)]
        exact (vup_k (by decide)).trans ((vup_i (by omega)).trans ((vup_r (by decide)).trans (if_neg (by omega))))
      have C := M_copies s1 (f := e + 1) (t := e) (by omega) (by omega) (by omega) (by rw [e3]; exact mk (e + 1) (by omega) (by omega))
      rw [cpU_up hm] at C
      exact (vret_n C).trans ((rX13_join_205 (by omega) (by omega)).trans (ih (e + 1) (by omega) (by omega)))
  have t1 : ∀ (k : Nat) (e : Int), e + k = h 2 284 (l + 1) → 0 ≤ e → vrun mX13_join 76 [(1, 282), (0, l), (0, x2), (0, h 2 284 l), (0, e)] [] (tJs h l e) = vrun mX13_join 186 [(1, 282), (0, l), (0, x2), (0, h 2 284 l), (0, l + 1)] [] (tJm h l) := by
    intro k
    induction k with
    | zero =>
      intro e he hm
      have s1 := shModel_sx (tJs_sx (a := h) (l := l) (e := e)) sM
      have r4 : ∀ i, tJs h l e 2 284 i = h 2 284 i := fun i => if_neg (by omega)
      have r5 : ∀ i, tJs h l e 2 285 i = h 2 285 i := fun i => if_neg (by omega)
      have rn : tJs h l e 1504 282 0 = h 1504 282 0 := if_neg (by omega)
      have e0 := rX13_join_76 (x1 := l) (x2 := x2) (x3 := h 2 284 l) (x4 := e) s1
      rw [r4, r4, r5, r5, rn] at e0
      refine (e0 (by omega) (by omega) (by omega) (by omega) (by omega) (by omega) (by omega) (by omega) (by omega) (by omega) (by omega) (by omega) (by omega) (by omega) (by omega) (by omega) (by omega) (by omega) (by omega) (by omega) (by omega) (by omega) (by omega) (by omega) (by omega) (by omega)).trans ((if_pos (by omega)).trans ?_)
      unfold tJm
      rw [show e = h 2 284 (l + 1) by omega]
    | succ k ih =>
      intro e he hm
      have s1 := shModel_sx (tJs_sx (a := h) (l := l) (e := e)) sM
      have r4 : ∀ i, tJs h l e 2 284 i = h 2 284 i := fun i => if_neg (by omega)
      have r5 : ∀ i, tJs h l e 2 285 i = h 2 285 i := fun i => if_neg (by omega)
      have rn : tJs h l e 1504 282 0 = h 1504 282 0 := if_neg (by omega)
      have e0 := rX13_join_76 (x1 := l) (x2 := x2) (x3 := h 2 284 l) (x4 := e) s1
      rw [r4, r4, r5, r5, rn] at e0
      refine (e0 (by omega) (by omega) (by omega) (by omega) (by omega) (by omega) (by omega) (by omega) (by omega) (by omega) (by omega) (by omega) (by omega) (by omega) (by omega) (by omega) (by omega) (by omega) (by omega) (by omega) (by omega) (by omega) (by omega) (by omega) (by omega) (by omega)).trans ((if_neg (by omega)).trans ?_)
      have e5 := ih (e + 1) (by omega) (by omega)
      rw [← tJs_up hm (by omega) h0.1] at e5
      exact e5
  have z1 := t1 (h 2 284 (l + 1)).toNat 0 (by omega) (by decide)
  rw [tJs_0] at z1
  have z2 := t2 (h 1504 282 0 - 1 - (l + 1)).toNat (l + 1) (by omega) (Int.le_refl _)
  rw [cpU_0] at z2
  exact z1.trans z2
end JNR
