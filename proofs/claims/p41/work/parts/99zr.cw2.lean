/-! what is not used of layers doesn't matter; operations on all places of a pane -/
def uE (a b : vH) : Prop := (∀ (k : Nat) (r i : Int), 282 ≤ r → r ≤ 337 → ¬ (k = 2 ∧ lyr r) → ¬ (r = 282 ∧ k = 1500) → b k r i = a k r i) ∧ ∀ p, 0 ≤ p → p < 4 → (∀ r k, 294 ≤ r → r ≤ 296 → 6 * p ≤ k → k < 6 * p + a 2 293 p → b 2 r k = a 2 r k) ∧ (∀ r k, 298 ≤ r → r ≤ 300 → 6 * p ≤ k → k < 6 * p + a 2 297 p → b 2 r k = a 2 r k) ∧ (∀ r k, 302 ≤ r → r ≤ 304 → 6 * p ≤ k → k < 6 * p + a 2 301 p → b 2 r k = a 2 r k)
section CW2
variable {h h2 a b : vH} {p q P Q X l x f t j st r l0 x0 : Int}
theorem cW_u (x : uE a b) (c : cW h a) : cW h b := by
  obtain ⟨x1, x2⟩ := x
  obtain ⟨c1, ⟨t1, t2, t3, t4, t5⟩, c3, c4, c5, c6⟩ := c
  have R : ∀ r i : Int, 282 ≤ r → r ≤ 337 → ¬ ((294 ≤ r ∧ r ≤ 296) ∨ (298 ≤ r ∧ r ≤ 300) ∨ (302 ≤ r ∧ r ≤ 304)) → b 2 r i = a 2 r i := fun r i u v n => x1 2 r i u v (fun z => n z.2) (fun z => absurd z.2 (by decide))
  have K : ∀ k : Nat, ¬ k = 2 → ¬ k = 1500 → b k 282 0 = a k 282 0 := fun k u v => x1 k 282 0 (by decide) (by decide) (fun z => u z.1) (fun z => v z.2)
  have el := K 1504 (by decide) (by decide)
  have en := K 1559 (by decide) (by decide)
  refine ⟨c1, ⟨t1, by rw [el]; exact t2, t3, t4, fun i u v => ?_⟩, fun p u v => ?_, fun p u v => ?_, ?_, ?_⟩
  · rw [el] at v
    obtain ⟨⟨d1, d2, d3⟩, d4⟩ := t5 i u v
    refine ⟨⟨d1, ?_, fun j s t => ?_⟩, ?_⟩
    · rw [R 284 i (by decide) (by decide) (by decide)]; exact d2
    · rw [R 284 i (by decide) (by decide) (by decide)] at t
      rw [R 283 _ (by decide) (by decide) (by decide)]
      exact d3 j s t
    · rw [R 285 i (by decide) (by decide) (by decide)]; exact d4
  · obtain ⟨d1, ⟨e1, ⟨l1, l2, l3, l4, l5, l6, l7⟩, e3, e4, e5, e6, e7, e8⟩, p1, p2, p3, p4, p5, p6⟩ := c3 p u v
    obtain ⟨y1, y2, y3⟩ := x2 p u v
    have es := R 293 p (by decide) (by decide) (by decide)
    have ev := R 297 p (by decide) (by decide) (by decide)
    have ef := R 301 p (by decide) (by decide) (by decide)
    refine ⟨d1, ⟨e1, ⟨l1, by rw [es]; exact l2, by rw [ev]; exact l3, by rw [ef]; exact l4, fun j s t => ?_, fun j s t => ?_, fun j s t => ?_⟩, ?_, ?_, ?_, ?_, ?_, ?_⟩, p1, p2, p3, ?_, ?_, fun k s t => ?_⟩
    · rw [es] at t
      rw [y1 294 _ (by decide) (by decide) (by omega) (by omega), y1 295 _ (by decide) (by decide) (by omega) (by omega), y1 296 _ (by decide) (by decide) (by omega) (by omega)]
      exact l5 j s t
    · rw [ev] at t
      rw [y2 298 _ (by decide) (by decide) (by omega) (by omega), y2 299 _ (by decide) (by decide) (by omega) (by omega), y2 300 _ (by decide) (by decide) (by omega) (by omega)]
      exact l6 j s t
    · rw [ef] at t
      rw [y3 302 _ (by decide) (by decide) (by omega) (by omega), y3 303 _ (by decide) (by decide) (by omega) (by omega), y3 304 _ (by decide) (by decide) (by omega) (by omega)]
      exact l7 j s t
    · rw [R 305 p (by decide) (by decide) (by decide), R 306 p (by decide) (by decide) (by decide)]; exact e3
    · rw [R 308 p (by decide) (by decide) (by decide), R 309 p (by decide) (by decide) (by decide)]; exact e4
    · rw [R 307 p (by decide) (by decide) (by decide)]; exact e5
    · rw [R 286 p (by decide) (by decide) (by decide)]; exact e6
    · rw [R 287 p (by decide) (by decide) (by decide)]; exact e7
    · rw [R 288 p (by decide) (by decide) (by decide)]; exact e8
    · rw [R 330 p (by decide) (by decide) (by decide)]; exact p4
    · rw [R 329 p (by decide) (by decide) (by decide)]; exact p5
    · rw [R 329 p (by decide) (by decide) (by decide)] at t
      rw [R 327 (24 * p + k) (by decide) (by decide) (by decide), R 328 (24 * p + k) (by decide) (by decide) (by decide)]
      obtain ⟨q1, q2, q3⟩ := p6 k s t
      refine ⟨q1, q2, fun c s2 t2 => ?_⟩
      rw [R 326 _ (by decide) (by decide) (by decide)]
      exact q3 c s2 t2
  · rw [R 289 p (by decide) (by decide) (by decide), R 290 p (by decide) (by decide) (by decide), R 291 p (by decide) (by decide) (by decide), R 292 p (by decide) (by decide) (by decide), R 310 p (by decide) (by decide) (by decide)]
    exact c4 p u v
  · obtain ⟨l1, l2, l3, l4⟩ := c5
    refine ⟨by rw [en]; exact l1, by rw [en]; exact l2, l3, fun i u v => ?_⟩
    rw [en] at v
    rw [en, R 334 i (by decide) (by decide) (by decide), R 335 i (by decide) (by decide) (by decide)]
    exact l4 i u v
  · have en : ∀ p t, nL b p t = nL a p t := fun p t => by
      unfold nL
      rw [R 293 p (by decide) (by decide) (by decide), R 297 p (by decide) (by decide) (by decide), R 301 p (by decide) (by decide) (by decide)]
    obtain ⟨u0, u1, u2, u3, u4⟩ := c6
    exact ⟨u0, u1, u2, fun p t j a1 a2 a3 a4 a5 a6 => u3 p t j a1 a2 a3 a4 a5 (by rw [← en]; exact a6), fun p t j p2 t2 j2 a1 a2 a3 a4 a5 a6 b1 b2 b3 b4 b5 b6 => u4 p t j p2 t2 j2 a1 a2 a3 a4 a5 (by rw [← en]; exact a6) b1 b2 b3 b4 b5 (by rw [← en]; exact b6)⟩
/-- what a pane counts and lays doesn't matter -/
theorem cW_qF (hp : 0 ≤ p ∧ p < 4) (x : qF (138 + 36 * p) h h2) (c : cW h a) : cW h2 a := by
  obtain ⟨c1, c2, c3, c4, c5, c6⟩ := c
  have sP := (c3 p hp.1 hp.2).2.1.1
  have ly : ∀ q, 0 ≤ q → q < 4 → cLay h a q (138 + 36 * q + 1) := fun q u v => (c3 q u v).2.1.2.1
  refine ⟨shPL_sx (qF_sx x) c1, cTx_qF x (by omega) c2, fun q u v => ?_, fun q u v => ?_, ?_, ?_⟩
  · obtain ⟨d1, d2, p1, p2, p3, p4, p5, p6⟩ := c3 q u v
    have ed : h2 717 (138 + 36 * q) 0 = h 717 (138 + 36 * q) 0 := x _ _ _ (by omega)
    refine ⟨(x _ _ _ (by omega)).trans d1, cFix_qF x sP d2, shPicture_sx (qF_sx x) p1, shPicture_sx (qF_sx x) p2, ?_, (x _ _ _ (by omega)).trans p4, ?_, fun k s t => ?_⟩
    · rw [ed, x 718 (138 + 36 * q) 0 (by omega)]; exact p3
    · rw [ed, x 803 _ _ (by omega)]; exact p5
    · obtain ⟨q1, q2, q3⟩ := p6 k s t
      rw [ed, x 2 (h 717 (138 + 36 * q) 0 + 2) _ (by omega), x 2 (h 717 (138 + 36 * q) 0 + 3) _ (by omega)]
      refine ⟨q1, q2, fun c s2 t2 => ?_⟩
      rw [x 2 (h 717 (138 + 36 * q) 0 + 1) _ (by omega)]
      exact q3 c s2 t2
  · rw [x 2 128 q (by omega), x 2 129 q (by omega), x 2 130 q (by omega), x 2 131 q (by omega), x 2 132 q (by omega)]
    exact c4 q u v
  · obtain ⟨l1, l2, l3, l4⟩ := c5
    have ex : h2 1406 3 0 = h 1406 3 0 := x _ _ _ (by omega)
    refine ⟨(x _ _ _ (by omega)).trans l1, l2, by rw [ex]; exact l3, fun i u v => ?_⟩
    rw [ex, x 2 134 _ (by omega), x 2 135 _ (by omega)]
    exact l4 i u v
  · exact cUq_of (x 3 0 0 (by omega)) (fun q t j a1 a2 a3 a4 => by
      obtain ⟨k1, k2, k3, k4, -⟩ := ly q a1 a2
      unfold dL eL
      refine ⟨x _ _ _ (by omega), fun j0 jn => ?_⟩
      unfold nL at jn
      rcases (show t = 0 ∨ t = 1 ∨ t = 2 by omega) with z | z | z <;> subst z
      · rw [if_pos rfl] at jn
        rw [show 140 + 36 * q + 0 = 138 + 36 * q + 1 + 1 by omega]
        exact lE_qF x sP k2 (by omega)
      · rw [if_neg (by decide), if_pos rfl] at jn
        rw [show 140 + 36 * q + 1 = 138 + 36 * q + 1 + 2 by omega]
        exact lE_qF x sP k3 (by omega)
      · rw [if_neg (by decide), if_neg (by decide)] at jn
        rw [show 140 + 36 * q + 2 = 138 + 36 * q + 1 + 3 by omega]
        exact lE_qF x sP k4 (by omega)) c6
/-- a pane forgets a line -/
def fgl (P l : Int) (h : vH) : vH := vup (vup (vup h 2 (P + 26) l (-1)) 714 P 0 0) 715 P 0 (-1)
theorem C_fgl (s : shPane h P) (hl : 0 ≤ l ∧ l < 60) : vcl mX5_forgetLine [(1, P), (0, l)] h = some (.inl none, fgl P l h) := by
  refine (show _ = _ from rX5_forgetLine_0 s).trans ?_
  rw [if_neg (by omega), if_neg (by omega)]
  rfl
theorem fgl_qF : qF P h (fgl P l h) := fun k r i e => by
  unfold fgl vup
  rw [if_neg (by omega), if_neg (by omega), if_neg (by omega)]
theorem fgl_r : fgl P l h 714 P 0 = 0 ∧ fgl P l h 715 P 0 = -1 ∧ ∀ i, fgl P l h 2 (P + 26) i = if i = l then -1 else h 2 (P + 26) i := ⟨(vup_k (by decide)).trans vup_s, vup_s, fun i => by
  have e : fgl P l h 2 (P + 26) i = vup h 2 (P + 26) l (-1) 2 (P + 26) i := (vup_k (by decide)).trans (vup_k (by decide))
  rw [e, vup_2]⟩
/-! operations on all places of a pane -/
def rgS (r : Int) : Prop := 294 ≤ r ∧ r ≤ 296
def rgV (r : Int) : Prop := 298 ≤ r ∧ r ≤ 299
def rgF (r : Int) : Prop := 302 ≤ r ∧ r ≤ 303
def rgL (r : Int) : Prop := rgS r ∨ rgV r ∨ rgF r
def rgC (r : Int) : Prop := r = 305 ∨ r = 306 ∨ r = 308 ∨ r = 309
/-- the panes up to q are through -/
noncomputable def TT (g : vH → Int → Int → Int) (a : vH) (q : Int) : vH := mp (mp a rgL 0 (6 * q) (g a)) rgC 0 q (g a)
/-- one pane goes through -/
noncomputable def oP (G : Int → Int → Int) (a : vH) (p : Int) : vH := aTp (aCu (mp (mp (mp a rgS (6 * p) (6 * p + a 2 293 p) G) rgV (6 * p) (6 * p + a 2 297 p) G) rgF (6 * p) (6 * p + a 2 301 p) G) p (G 305 p) (G 306 p)) p (G 308 p) (G 309 p)
def gLoc (g : vH → Int → Int → Int) : Prop := (∀ a b r i, rgL r → (∀ q, 294 ≤ q → q ≤ 304 → b 2 q i = a 2 q i) → g b r i = g a r i) ∧ ∀ a b r i, rgC r → (∀ q, 305 ≤ q → q ≤ 309 → b 2 q i = a 2 q i) → g b r i = g a r i
theorem TT_0 {g : vH → Int → Int → Int} : TT g a 0 = a := by
  unfold TT
  rw [show (6 * 0 : Int) = 0 by decide, mp_0, mp_0]
theorem TT_o {g : vH → Int → Int → Int} {k : Nat} {r i : Int} (n : ¬ (k = 2 ∧ (rgL r ∨ rgC r))) : TT g a q k r i = a k r i := (if_neg (fun z => n ⟨z.1, Or.inr z.2.1⟩)).trans (if_neg (fun z => n ⟨z.1, Or.inl z.2.1⟩))
theorem TT_L {g : vH → Int → Int → Int} {r i : Int} (hr : rgL r) : TT g a q 2 r i = if 0 ≤ i ∧ i < 6 * q then g a r i else a 2 r i := by
  have n : ¬ rgC r := by
    unfold rgL rgS rgV rgF at hr
    unfold rgC
    omega
  unfold TT
  rw [mp_r n]
  by_cases z : 0 ≤ i ∧ i < 6 * q
  · rw [if_pos z, mp_in hr z.1 z.2]
  · rw [if_neg z, mp_i z]
theorem TT_C {g : vH → Int → Int → Int} {r i : Int} (hr : rgC r) : TT g a q 2 r i = if 0 ≤ i ∧ i < q then g a r i else a 2 r i := by
  have n : ¬ rgL r := by
    unfold rgC at hr
    unfold rgL rgS rgV rgF
    omega
  unfold TT
  by_cases z : 0 ≤ i ∧ i < q
  · rw [if_pos z, mp_in hr z.1 z.2]
  · rw [if_neg z, mp_i z, mp_r n]
theorem oP_o {G : Int → Int → Int} {k : Nat} {r i : Int} (n : ¬ (k = 2 ∧ (rgL r ∨ rgC r))) : oP G a p k r i = a k r i := by
  unfold oP aTp aCu vup
  have m : ∀ q : Int, rgC q → ¬ (k = 2 ∧ r = q ∧ i = p) := fun q hq z => n ⟨z.1, Or.inr (by rw [z.2.1]; exact hq)⟩
  rw [if_neg (m _ (by unfold rgC; decide)), if_neg (m _ (by unfold rgC; decide)), if_neg (m _ (by unfold rgC; decide)), if_neg (m _ (by unfold rgC; decide))]
  exact (if_neg (fun z => n ⟨z.1, Or.inl (Or.inr (Or.inr z.2.1))⟩)).trans ((if_neg (fun z => n ⟨z.1, Or.inl (Or.inr (Or.inl z.2.1))⟩)).trans (if_neg (fun z => n ⟨z.1, Or.inl (Or.inl z.2.1)⟩)))
theorem oP_L {G : Int → Int → Int} {r i : Int} (n : ¬ rgC r) : oP G a p 2 r i = mp (mp (mp a rgS (6 * p) (6 * p + a 2 293 p) G) rgV (6 * p) (6 * p + a 2 297 p) G) rgF (6 * p) (6 * p + a 2 301 p) G 2 r i := by
  unfold oP aTp aCu
  unfold rgC at n
  rw [vup_r (by omega), vup_r (by omega), vup_r (by omega), vup_r (by omega)]
theorem oP_S {G : Int → Int → Int} {r i : Int} (hr : rgS r) : oP G a p 2 r i = if 6 * p ≤ i ∧ i < 6 * p + a 2 293 p then G r i else a 2 r i := by
  unfold rgS at hr
  rw [oP_L (by unfold rgC; omega), mp_r (by unfold rgF; omega), mp_r (by unfold rgV; omega)]
  by_cases z : 6 * p ≤ i ∧ i < 6 * p + a 2 293 p
  · rw [if_pos z, mp_in hr z.1 z.2]
  · rw [if_neg z, mp_i z]
theorem oP_V {G : Int → Int → Int} {r i : Int} (hr : rgV r) : oP G a p 2 r i = if 6 * p ≤ i ∧ i < 6 * p + a 2 297 p then G r i else a 2 r i := by
  unfold rgV at hr
  rw [oP_L (by unfold rgC; omega), mp_r (by unfold rgF; omega)]
  by_cases z : 6 * p ≤ i ∧ i < 6 * p + a 2 297 p
  · rw [if_pos z, mp_in hr z.1 z.2]
  · rw [if_neg z, mp_i z, mp_r (by unfold rgS; omega)]
theorem oP_F {G : Int → Int → Int} {r i : Int} (hr : rgF r) : oP G a p 2 r i = if 6 * p ≤ i ∧ i < 6 * p + a 2 301 p then G r i else a 2 r i := by
  unfold rgF at hr
  rw [oP_L (by unfold rgC; omega)]
  by_cases z : 6 * p ≤ i ∧ i < 6 * p + a 2 301 p
  · rw [if_pos z, mp_in hr z.1 z.2]
  · rw [if_neg z, mp_i z, mp_r (by unfold rgV; omega), mp_r (by unfold rgS; omega)]
theorem oP_C {G : Int → Int → Int} {r i : Int} (hr : rgC r) : oP G a p 2 r i = if i = p then G r p else a 2 r i := by
  unfold rgC at hr
  have b : mp (mp (mp a rgS (6 * p) (6 * p + a 2 293 p) G) rgV (6 * p) (6 * p + a 2 297 p) G) rgF (6 * p) (6 * p + a 2 301 p) G 2 r i = a 2 r i := by
    rw [mp_r (by unfold rgF; omega), mp_r (by unfold rgV; omega), mp_r (by unfold rgS; omega)]
  by_cases z : i = p
  · rw [if_pos z, z]
    unfold oP
    rcases hr with e | e | e | e <;> subst e
    · exact (vup_r (by decide)).trans ((vup_r (by decide)).trans aCu_1.1)
    · exact (vup_r (by decide)).trans ((vup_r (by decide)).trans aCu_1.2)
    · exact aTp_1.1
    · exact aTp_1.2
  · rw [if_neg z, ← b]
    unfold oP
    rw [aTp_n z, aCu_n z]
theorem oP_TT {g : vH → Int → Int → Int} (gl : gLoc g) (n6 : cn6 a) (hp : 0 ≤ p ∧ p < 4) : uE (oP (g (TT g a p)) (TT g a p) p) (TT g a (p + 1)) := by
  have cS : ∀ q : Int, TT g a p 2 293 q = a 2 293 q := fun q => TT_o (by unfold rgL rgS rgV rgF rgC; omega)
  have cV : ∀ q : Int, TT g a p 2 297 q = a 2 297 q := fun q => TT_o (by unfold rgL rgS rgV rgF rgC; omega)
  have cF : ∀ q : Int, TT g a p 2 301 q = a 2 301 q := fun q => TT_o (by unfold rgL rgS rgV rgF rgC; omega)
  have atp : ∀ q i : Int, 294 ≤ q → q ≤ 304 → 6 * p ≤ i → TT g a p 2 q i = a 2 q i := fun q i u v w => by
    by_cases y : rgL q
    · rw [TT_L y, if_neg (by omega)]
    · exact TT_o (fun z => z.2.elim y (fun z => by unfold rgC at z; omega))
  have atc : ∀ q : Int, 305 ≤ q → q ≤ 309 → TT g a p 2 q p = a 2 q p := fun q u v => by
    by_cases y : rgC q
    · rw [TT_C y, if_neg (by omega)]
    · exact TT_o (fun z => z.2.elim (fun z => by unfold rgL rgS rgV rgF at z; omega) y)
  have eL : ∀ r i, rgL r → 6 * p ≤ i → g (TT g a p) r i = g a r i := fun r i hr hi => gl.1 _ _ _ _ hr (fun q u v => atp q i u v hi)
  have eC : ∀ r, rgC r → g (TT g a p) r p = g a r p := fun r hr => gl.2 _ _ _ _ hr (fun q u v => atc q u v)
  have lay : ∀ r i : Int, lyr r → ¬ rgL r → TT g a (p + 1) 2 r i = oP (g (TT g a p)) (TT g a p) p 2 r i := fun r i u v => by
    have n : ¬ rgC r := by
      unfold lyr at u
      unfold rgC
      omega
    rw [TT_o (fun z => z.2.elim v n), oP_o (fun z => z.2.elim v n), TT_o (fun z => z.2.elim v n)]
  refine ⟨fun k r i u v n1 n2 => ?_, fun q u v => ⟨fun r k u1 u2 u3 u4 => ?_, fun r k u1 u2 u3 u4 => ?_, fun r k u1 u2 u3 u4 => ?_⟩⟩
  · by_cases z : k = 2 ∧ rgC r
    · obtain ⟨z1, z2⟩ := z
      subst z1
      rw [TT_C z2, oP_C z2]
      by_cases y : i = p
      · subst y
        rw [if_pos rfl, if_pos (by omega), eC r z2]
      · rw [if_neg y, TT_C z2]
        by_cases w : 0 ≤ i ∧ i < p
        · rw [if_pos w, if_pos (by omega)]
        · rw [if_neg w, if_neg (by omega)]
    · have n : ¬ (k = 2 ∧ (rgL r ∨ rgC r)) := fun w => by
        rcases w.2 with y | y
        · refine n1 ⟨w.1, ?_⟩
          unfold rgL rgS rgV rgF at y
          unfold lyr
          omega
        · exact z ⟨w.1, y⟩
      rw [TT_o n, oP_o n, TT_o n]
  · have u4 : k < 6 * q + a 2 293 q := by
      have : oP (g (TT g a p)) (TT g a p) p 2 293 q = a 2 293 q := (oP_o (by unfold rgL rgS rgV rgF rgC; omega)).trans (cS q)
      rw [this] at u4; exact u4
    have q6 := (n6 q u v).1
    have p6 := (n6 p hp.1 hp.2).1
    rw [TT_L (Or.inl ⟨u1, u2⟩), oP_S ⟨u1, u2⟩, cS]
    by_cases y : q = p
    · subst y
      rw [if_pos (by omega), if_pos (by omega), eL r k (Or.inl ⟨u1, u2⟩) u3]
    · rw [if_neg (show ¬ (6 * p ≤ k ∧ k < 6 * p + a 2 293 p) by omega), TT_L (Or.inl ⟨u1, u2⟩)]
      by_cases w : 0 ≤ k ∧ k < 6 * p
      · rw [if_pos w, if_pos (by omega)]
      · rw [if_neg w, if_neg (by omega)]
  · have u4 : k < 6 * q + a 2 297 q := by
      have : oP (g (TT g a p)) (TT g a p) p 2 297 q = a 2 297 q := (oP_o (by unfold rgL rgS rgV rgF rgC; omega)).trans (cV q)
      rw [this] at u4; exact u4
    have q6 := (n6 q u v).2.1
    have p6 := (n6 p hp.1 hp.2).2.1
    by_cases e : r = 300
    · exact lay r k (by unfold lyr; omega) (by unfold rgL rgS rgV rgF; omega)
    have hr : rgV r := ⟨u1, by omega⟩
    rw [TT_L (Or.inr (Or.inl hr)), oP_V hr, cV]
    by_cases y : q = p
    · subst y
      rw [if_pos (by omega), if_pos (by omega), eL r k (Or.inr (Or.inl hr)) u3]
    · rw [if_neg (show ¬ (6 * p ≤ k ∧ k < 6 * p + a 2 297 p) by omega), TT_L (Or.inr (Or.inl hr))]
      by_cases w : 0 ≤ k ∧ k < 6 * p
      · rw [if_pos w, if_pos (by omega)]
      · rw [if_neg w, if_neg (by omega)]
  · have u4 : k < 6 * q + a 2 301 q := by
      have : oP (g (TT g a p)) (TT g a p) p 2 301 q = a 2 301 q := (oP_o (by unfold rgL rgS rgV rgF rgC; omega)).trans (cF q)
      rw [this] at u4; exact u4
    have q6 := (n6 q u v).2.2
    have p6 := (n6 p hp.1 hp.2).2.2
    by_cases e : r = 304
    · exact lay r k (by unfold lyr; omega) (by unfold rgL rgS rgV rgF; omega)
    have hr : rgF r := ⟨u1, by omega⟩
    rw [TT_L (Or.inr (Or.inr hr)), oP_F hr, cF]
    by_cases y : q = p
    · subst y
      rw [if_pos (by omega), if_pos (by omega), eL r k (Or.inr (Or.inr hr)) u3]
    · rw [if_neg (show ¬ (6 * p ≤ k ∧ k < 6 * p + a 2 301 p) by omega), TT_L (Or.inr (Or.inr hr))]
      by_cases w : 0 ≤ k ∧ k < 6 * p
      · rw [if_pos w, if_pos (by omega)]
      · rw [if_neg w, if_neg (by omega)]
theorem aSp_mp {G : Int → Int → Int} {lo K : Int} (hl : lo ≤ K) : aSp (mp a rgS lo K G) K (G 294 K) (G 295 K) (G 296 K) = mp a rgS lo (K + 1) G := by
  refine mp_next hl (fun r hr => ?_) (fun k r i n => ?_)
  · unfold rgS at hr
    rcases (show r = 294 ∨ r = 295 ∨ r = 296 by omega) with e | e | e <;> subst e
    · exact aSp_1.1
    · exact aSp_1.2.1
    · exact aSp_1.2.2
  · unfold aSp vup
    rw [if_neg (fun z => n ⟨z.1, by unfold rgS; omega, z.2.2⟩), if_neg (fun z => n ⟨z.1, by unfold rgS; omega, z.2.2⟩), if_neg (fun z => n ⟨z.1, by unfold rgS; omega, z.2.2⟩)]
theorem aVi_mp {G : Int → Int → Int} {lo K : Int} (hl : lo ≤ K) : aVi (mp a rgV lo K G) K (G 298 K) (G 299 K) = mp a rgV lo (K + 1) G := by
  refine mp_next hl (fun r hr => ?_) (fun k r i n => ?_)
  · unfold rgV at hr
    rcases (show r = 298 ∨ r = 299 by omega) with e | e <;> subst e
    · exact aVi_1.1
    · exact aVi_1.2
  · unfold aVi vup
    rw [if_neg (fun z => n ⟨z.1, by unfold rgV; omega, z.2.2⟩), if_neg (fun z => n ⟨z.1, by unfold rgV; omega, z.2.2⟩)]
theorem aFo_mp {G : Int → Int → Int} {lo K : Int} (hl : lo ≤ K) : aFo (mp a rgF lo K G) K (G 302 K) (G 303 K) = mp a rgF lo (K + 1) G := by
  refine mp_next hl (fun r hr => ?_) (fun k r i n => ?_)
  · unfold rgF at hr
    rcases (show r = 302 ∨ r = 303 by omega) with e | e <;> subst e
    · exact aFo_1.1
    · exact aFo_1.2
  · unfold aFo vup
    rw [if_neg (fun z => n ⟨z.1, by unfold rgF; omega, z.2.2⟩), if_neg (fun z => n ⟨z.1, by unfold rgF; omega, z.2.2⟩)]
theorem mp_id {b : vH} {R : Int → Prop} {lo hi : Int} {G : Int → Int → Int} (e : ∀ r i, R r → lo ≤ i → i < hi → G r i = b 2 r i) : mp b R lo hi G = b := by
  funext k r i
  by_cases z : k = 2 ∧ R r ∧ lo ≤ i ∧ i < hi
  · obtain ⟨z1, z2, z3, z4⟩ := z
    rw [z1, mp_in z2 z3 z4, e r i z2 z3 z4]
  · exact if_neg z
theorem vup_same {k : Nat} {r i v : Int} (e : h k r i = v) : vup h k r i v = h := by
  funext k' r' i'
  unfold vup
  by_cases z : k' = k ∧ r' = r ∧ i' = i
  · rw [if_pos z, z.1, z.2.1, z.2.2, e]
  · rw [if_neg z]
theorem shPane_pl (s : shPane h P) : shPlace h (P + 23) ∧ shPlace h (P + 24) := by
  obtain ⟨-, -, -, -, -, -, -, -, -, s1, -, s2, -⟩ := s
  exact ⟨s1, s2⟩
theorem mp_sx {b : vH} {R : Int → Prop} {lo hi : Int} {G : Int → Int → Int} : sx b (mp b R lo hi G) := fun k r i e => mp_k (fun z => by rw [z] at e; cases e)
theorem TT_sx {g : vH → Int → Int → Int} : sx a (TT g a q) := sx_tr mp_sx mp_sx
theorem cn6_of (e : ∀ q, 0 ≤ q → q < 4 → b 2 293 q = a 2 293 q ∧ b 2 297 q = a 2 297 q ∧ b 2 301 q = a 2 301 q) (n : cn6 a) : cn6 b := fun q u v => by
  rw [(e q u v).1, (e q u v).2.1, (e q u v).2.2]
  exact n q u v
end CW2

