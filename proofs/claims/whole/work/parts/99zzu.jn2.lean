/-! two lines are joined: the reference's layers -/
section JN2
variable {h h2 a b : vH} {p q P Q X l x s f u t j st r l0 x0 n e m : Int}
theorem M_dropsFold (sM : shModel h) (cl : iC h) (hp : 0 ≤ p ∧ p < 4) (hj : 0 ≤ j ∧ j < h 2 301 p) (n6 : h 2 301 p ≤ 6) : vcl mX13_dropsFold [(1, 282), (0, p), (0, j)] h = some (.inl none, dR h p 2 j) := by
  have loop : ∀ (f : Nat) (e : Int), e + f = 6 * p + h 2 301 p - 1 → 6 * p + j ≤ e → vrun mX13_dropsFold 17 [(1, 282), (0, p), (0, j), (0, e)] [] (dRk h p 2 j e) = some (.inl none, dR h p 2 j) := by
    intro f
    induction f with
    | zero =>
      intro e he h6
      have s1 := shModel_sx (dRk_sx (a := h) (p := p) (t := 2) (j := j) (e := e)) sM
      have n1 : dRk h p 2 j e 2 301 p = h 2 301 p - 1 := dRk_n (t := 2)
      refine (rX13_dropsFold_17 (by omega) (by omega) s1 hp.1 hp.2 (by omega) (by omega) (by omega) (by omega) (by omega) (by omega) (by omega) (by omega) (by omega)).trans ((if_pos (by omega)).trans ?_)
      have hz : h 2 (293 + 4 * 2) p = h 2 301 p := rfl
      rw [← dRk_1, show e = 6 * p + h 2 (293 + 4 * 2) p - 1 by omega]
    | succ f ih =>
      intro e he h6
      have s1 := shModel_sx (dRk_sx (a := h) (p := p) (t := 2) (j := j) (e := e)) sM
      have n1 : dRk h p 2 j e 2 301 p = h 2 301 p - 1 := dRk_n (t := 2)
      have n2 : dRk h p 2 j e 2 304 (e + 1) = h 2 304 (e + 1) := dRk_r (t := 2) (by decide) (by omega)
      refine (rX13_dropsFold_17 (by omega) (by omega) s1 hp.1 hp.2 (by omega) (by omega) (by omega) (by omega) (by omega) (by omega) (by omega) (by omega) (fun _ => by rw [n2]; exact cl (e + 1) (by omega) (by omega))).trans ((if_neg (by omega)).trans ?_)
      exact (congrArg _ (dRk_up (a := h) (p := p) (t := 2) (j := j) h6)).trans (ih (e + 1) (by omega) (by omega))
  refine (show _ = _ from rX13_dropsFold_0 sM hp.1 hp.2 (by omega) (by omega) (by omega) (by omega) (by omega) (by omega)).trans ?_
  exact (congrArg _ (dRk_0 (a := h) (p := p) (t := 2) (j := j))).trans (loop (h 2 301 p - 1 - j).toNat (6 * p + j) (by omega) (Int.le_refl _))
theorem dFk_sx : ∀ (k : Nat) (a : vH), sx a (dFk p k a)
  | 0, _ => sx_rf
  | k + 1, a => by
    unfold dFk
    split
    · exact sx_tr dR_sx (dFk_sx k _)
    · exact dFk_sx k _
theorem dF_sx : sx a (dF a p) := dFk_sx _ _
theorem dFn_sx : ∀ (k : Nat), sx a (dFn k a)
  | 0 => sx_rf
  | k + 1 => sx_tr (dFn_sx k) dF_sx
theorem dR2_n {k : Int} : dR a p 2 k 2 301 p = a 2 301 p - 1 := if_pos ⟨rfl, rfl, rfl⟩
/-- outside of the folds of a pane nothing changes -/
theorem dFk_o {i : Int} {kk : Nat} {r : Int} (hp : 0 ≤ p ∧ p < 4) (n : ¬ (kk = 2 ∧ (r = 301 ∧ i = p ∨ 302 ≤ r ∧ r ≤ 304 ∧ 6 * p ≤ i ∧ i < 6 * p + 6))) : ∀ (k : Nat) (a : vH), a 2 301 p ≤ 6 → (k : Int) ≤ a 2 301 p → dFk p k a kk r i = a kk r i
  | 0, _, _, _ => rfl
  | k + 1, a, h6, hk => by
    have e1 : dR a p 2 k kk r i = a kk r i := by
      unfold dR
      rw [if_neg (by omega), if_neg (by
        have : a 2 (293 + 4 * 2) p = a 2 301 p := rfl
        omega)]
    have e2 := dR2_n (a := a) (p := p) (k := (k : Int))
    unfold dFk
    split
    · rw [dFk_o hp n k _ (by omega) (by omega), e1]
    · exact dFk_o hp n k a h6 (by omega)
theorem dF_o {i : Int} {kk : Nat} {r : Int} (hp : 0 ≤ p ∧ p < 4) (n6 : 0 ≤ a 2 301 p ∧ a 2 301 p ≤ 6) (n : ¬ (kk = 2 ∧ (r = 301 ∧ i = p ∨ 302 ≤ r ∧ r ≤ 304 ∧ 6 * p ≤ i ∧ i < 6 * p + 6))) : dF a p kk r i = a kk r i := dFk_o hp n _ a n6.2 (by omega)
theorem dFk_n (hp : 0 ≤ p) : ∀ (k : Nat) (a : vH), (k : Int) ≤ a 2 301 p → 0 ≤ dFk p k a 2 301 p ∧ dFk p k a 2 301 p ≤ a 2 301 p
  | 0, a, hk => ⟨hk, Int.le_refl _⟩
  | k + 1, a, hk => by
    have e2 := dR2_n (a := a) (p := p) (k := (k : Int))
    unfold dFk
    split
    · have ih := dFk_n hp k (dR a p 2 k) (by omega)
      omega
    · exact dFk_n hp k a (by omega)
theorem dF_n6 (hp : 0 ≤ p ∧ p < 4) (n6 : cn6 a) : cn6 (dF a p) := fun q u v => by
  have k := n6 q u v
  have kp := n6 p hp.1 hp.2
  rw [dF_o hp kp.2.2 (r := 297) (by omega), dF_o hp kp.2.2 (r := 293) (by omega)]
  refine ⟨k.1, k.2.1, ?_⟩
  by_cases z : q = p
  · rw [z]
    have := dFk_n hp.1 (a 2 301 p).toNat a (by omega)
    unfold dF
    omega
  · rw [dF_o hp kp.2.2 (by omega)]
    exact k.2.2
theorem dFn_n6 : ∀ (k : Nat), (k : Int) ≤ 4 → cn6 a → cn6 (dFn k a)
  | 0, _, n6 => n6
  | k + 1, hk, n6 => dF_n6 (by omega) (dFn_n6 k (by omega) n6)
theorem dFn_o {kk : Nat} {r i : Int} (n6 : cn6 a) (n : ¬ (kk = 2 ∧ ((r = 301 ∧ 0 ≤ i ∧ i < 4) ∨ (302 ≤ r ∧ r ≤ 304)))) : ∀ (k : Nat), (k : Int) ≤ 4 → dFn k a kk r i = a kk r i
  | 0, _ => rfl
  | k + 1, hk => by
    have k6 := dFn_n6 k (by omega) n6
    exact (dF_o (by omega) (k6 k (by omega) (by omega)).2.2 (by omega)).trans (dFn_o n6 n k (by omega))
/-- the panes behind -/
theorem dFn_a {i : Int} {r : Int} (n6 : cn6 a) (hq : 0 ≤ q ∧ q < 4) (e : r = 301 ∧ i = q ∨ 302 ≤ r ∧ r ≤ 304 ∧ 6 * q ≤ i ∧ i < 6 * q + 6) : ∀ (k : Nat), (k : Int) ≤ q → dFn k a 2 r i = a 2 r i
  | 0, _ => rfl
  | k + 1, hk => by
    have k6 := dFn_n6 k (by omega) n6
    exact (dF_o (by omega) (k6 k (by omega) (by omega)).2.2 (by omega)).trans (dFn_a n6 hq e k (by omega))
theorem iC_dFk (hp : 0 ≤ p ∧ p < 4) : ∀ (k : Nat) (a : vH), iC a → a 2 301 p ≤ 6 → (k : Int) ≤ a 2 301 p → iC (dFk p k a)
  | 0, _, c, _, _ => c
  | k + 1, a, c, h6, hk => by
    have e2 := dR2_n (a := a) (p := p) (k := (k : Int))
    unfold dFk
    split
    · exact iC_dFk hp k _ (iC_dR c (by decide) hp (by rw [nL_f]; exact h6) (by omega)) (by omega) (by omega)
    · exact iC_dFk hp k a c h6 (by omega)
theorem iC_dFn (n6 : cn6 a) (c : iC a) : ∀ (k : Nat), (k : Int) ≤ 4 → iC (dFn k a)
  | 0, _ => c
  | k + 1, hk => by
    have k6 := dFn_n6 k (by omega) n6
    have k7 := (k6 k (by omega) (by omega)).2.2
    exact iC_dFk (by omega) _ _ (iC_dFn n6 c k (by omega)) k7.2 (by omega)
/-- what isn't a fold may change before or behind -/
theorem dFk_mp {R : Int → Prop} {lo hi : Int} {G : Int → Int → Int} (nR : ∀ r, R r → ¬ (301 ≤ r ∧ r ≤ 304)) : ∀ (k : Nat) (a : vH), dFk p k (mp a R lo hi G) = mp (dFk p k a) R lo hi G
  | 0, _ => rfl
  | k + 1, a => by
    have m : ∀ r i, 301 ≤ r → r ≤ 304 → mp a R lo hi G 2 r i = a 2 r i := fun r i u v => mp_r (fun w => nR r w ⟨u, v⟩)
    have eD : dR (mp a R lo hi G) p 2 k = mp (dR a p 2 k) R lo hi G := by
      funext kk r i
      have q1 : mp a R lo hi G 2 (293 + 4 * 2) p = a 2 (293 + 4 * 2) p := m _ _ (by decide) (by decide)
      unfold dR
      rw [q1]
      by_cases y : kk = 2 ∧ r = 293 + 4 * 2 ∧ i = p
      · rw [if_pos y]
        obtain ⟨y1, y2, y3⟩ := y
        subst y1
        rw [mp_r (fun w => nR r w (by omega)), if_pos ⟨rfl, y2, y3⟩]
      · rw [if_neg y]
        by_cases w : kk = 2 ∧ (294 + 4 * 2 ≤ r ∧ r ≤ 296 + 4 * 2) ∧ 6 * p + (k : Int) ≤ i ∧ i < 6 * p + a 2 (293 + 4 * 2) p - 1
        · rw [if_pos w, m _ _ (by omega) (by omega)]
          have w1 := w.1
          subst w1
          rw [mp_r (fun w2 => nR r w2 (by omega)), if_neg (fun z => y ⟨rfl, z.2.1, z.2.2⟩), if_pos ⟨rfl, w.2⟩]
        · rw [if_neg w]
          unfold mp
          by_cases v : kk = 2 ∧ R r ∧ lo ≤ i ∧ i < hi
          · rw [if_pos v, if_pos v]
          · rw [if_neg v, if_neg v]
            dsimp only
            rw [if_neg y, if_neg w]
    unfold dFk
    rw [m _ _ (by decide) (by decide), m _ _ (by decide) (by decide), eD]
    split
    · exact dFk_mp nR k _
    · exact dFk_mp nR k _
theorem dF_mp {R : Int → Prop} {lo hi : Int} {G : Int → Int → Int} (nR : ∀ r, R r → ¬ (301 ≤ r ∧ r ≤ 304)) : dF (mp a R lo hi G) p = mp (dF a p) R lo hi G := by
  unfold dF
  rw [mp_r (fun w => nR _ w (by decide))]
  exact dFk_mp nR _ _
theorem M_dropsFk (hp : 0 ≤ p ∧ p < 4) : ∀ (k : Nat) (a : vH), shModel a → iC a → a 2 301 p ≤ 6 → (k : Int) ≤ a 2 301 p → vrun mX13_joinsLayers 294 [(1, 282), (0, l), (0, n), (0, p), (0, (k : Int) - 1)] [] a = vrun mX13_joinsLayers 179 [(1, 282), (0, l), (0, n), (0, p + 1), (0, -1)] [] (dFk p k a)
  | 0, a, sM, c, h6, _ => by
    refine (rX13_joinsLayers_294 (by omega) (by omega) sM (by omega) (by omega) (by omega) (by omega) (by omega) (by omega)).trans ((if_pos (by omega)).trans ?_)
    rfl
  | k + 1, a, sM, c, h6, hk => by
    have e2 := dR2_n (a := a) (p := p) (k := (k : Int))
    rw [show ((k + 1 : Nat) : Int) - 1 = (k : Int) by omega]
    refine (rX13_joinsLayers_294 (by omega) (by omega) sM (by omega) (by omega) (by omega) (by omega) (by omega) (by omega)).trans ((if_neg (by omega)).trans ?_)
    unfold dFk
    by_cases z : a 2 302 (6 * p + k) = a 2 303 (6 * p + k)
    · rw [if_pos z, if_pos z]
      have ih := M_dropsFk hp k (dR a p 2 k) (shModel_sx dR_sx sM) (iC_dR c (by decide) hp (by rw [nL_f]; exact h6) (by omega)) (by omega) (by omega)
      exact (vret_n (M_dropsFold sM c hp (j := (k : Int)) ⟨by omega, by omega⟩ h6)).trans ((rX13_joinsLayers_333 (by omega) (by omega)).trans ih)
    · rw [if_neg z, if_neg z]
      exact M_dropsFk hp k a sM c h6 (by omega)
theorem jnX_b (hn : 0 ≤ n ∧ n ≤ 80) : X ≤ jnX l n l0 X ∧ jnX l n l0 X ≤ X + 80 := by
  unfold jnX
  split <;> omega
theorem M_joins (sM : shModel a) (bd : bdP a) (n6 : cn6 a) (c : iC a) (hl : 0 ≤ l ∧ l < 60) (hn : 0 ≤ n ∧ n ≤ 80) : vcl mX13_joinsLayers [(1, 282), (0, l), (0, n)] a = some (.inl none, dFn 4 (TT (gJo l n) a 4)) := by
  have t2 : ∀ (k : Nat) (j : Int) (v4 : vv), j + k = 24 → 0 ≤ j → ∃ v4', vrun mX13_joinsLayers 2 [(1, 282), (0, l), (0, n), (0, j), v4] [] (mp a rgL 0 j (gJo l n a)) = vrun mX13_joinsLayers 179 [(1, 282), (0, l), (0, n), (0, 0), v4'] [] (mp a rgL 0 24 (gJo l n a)) := by
    intro k
    induction k with
    | zero =>
      intro j v4 hj h0
      have ej : j = 24 := by omega
      subst ej
      exact ⟨v4, (rX13_joinsLayers_2 (shModel_sx mp_sx sM) (by omega) (by omega) (by omega) (by omega) (by omega) (by omega) (by omega) (by omega) (by omega) (by omega) (by omega) (by omega) (by omega) (by omega) (by omega) (by omega) (by omega)).trans (if_pos (by omega))⟩
    | succ k ih =>
      intro j v4 hj h0
      have rd : ∀ r, mp a rgL 0 j (gJo l n a) 2 r j = a 2 r j := fun r => mp_i (by omega)
      have b0 := bd.1 294 j (Or.inl (by unfold rgS; decide)) h0 (by omega)
      have b1 := bd.1 295 j (Or.inl (by unfold rgS; decide)) h0 (by omega)
      have b2 := bd.1 296 j (Or.inl (by unfold rgS; decide)) h0 (by omega)
      have b3 := bd.1 299 j (Or.inr (Or.inl (by unfold rgV; decide))) h0 (by omega)
      have b4 := bd.1 298 j (Or.inr (Or.inl (by unfold rgV; decide))) h0 (by omega)
      have b5 := bd.1 302 j (Or.inr (Or.inr (by unfold rgF; decide))) h0 (by omega)
      have b6 := bd.1 303 j (Or.inr (Or.inr (by unfold rgF; decide))) h0 (by omega)
      have e0 := rX13_joinsLayers_2 (x1 := l) (x2 := n) (x3 := j) (v4 := v4) (h := mp a rgL 0 j (gJo l n a)) (shModel_sx mp_sx sM) (by omega)
      rw [rd 296, rd 294, rd 295, rd 299, rd 298, rd 302, rd 303] at e0
      have e1 := e0 (by omega) (by omega) (fun _ => by split <;> omega) (fun _ => by split <;> omega) (fun _ => by split <;> omega) (fun _ => by split <;> omega) (fun _ => by split <;> omega) (fun _ => by split <;> omega) (fun _ => by split <;> omega) (fun _ => by split <;> omega) (fun _ => by split <;> omega) (fun _ => by split <;> omega) (fun _ => by split <;> omega) (fun _ => by split <;> omega) (fun _ => by split <;> omega) (fun _ => by split <;> omega)
      obtain ⟨v4', q⟩ := ih (j + 1) _ (by omega) (by omega)
      refine ⟨v4', e1.trans ((if_neg (by omega)).trans (Eq.trans (congrArg _ ?_) q))⟩
      refine mp_next h0 (fun r hr => ?_) (fun k r i n => ?_)
      · unfold rgL rgS rgV rgF at hr
        rcases (show r = 294 ∨ r = 295 ∨ r = 296 ∨ r = 298 ∨ r = 299 ∨ r = 302 ∨ r = 303 by omega) with e | e | e | e | e | e | e <;> subst e
        · exact (vup_r (by decide)).trans ((vup_r (by decide)).trans ((vup_r (by decide)).trans ((vup_r (by decide)).trans vup_s)))
        · exact (vup_r (by decide)).trans ((vup_r (by decide)).trans ((vup_r (by decide)).trans ((vup_r (by decide)).trans ((vup_r (by decide)).trans ((vup_r (by decide)).trans vup_s)))))
        · exact (vup_r (by decide)).trans ((vup_r (by decide)).trans ((vup_r (by decide)).trans ((vup_r (by decide)).trans ((vup_r (by decide)).trans vup_s))))
        · exact (vup_r (by decide)).trans ((vup_r (by decide)).trans vup_s)
        · exact (vup_r (by decide)).trans ((vup_r (by decide)).trans ((vup_r (by decide)).trans vup_s))
        · exact (vup_r (by decide)).trans vup_s
        · exact vup_s
      · have m : ∀ q : Int, rgL q → ¬ (k = 2 ∧ r = q ∧ i = j) := fun q hq z => n ⟨z.1, by rw [z.2.1]; exact hq, z.2.2⟩
        unfold vup
        rw [if_neg (m _ (by unfold rgL rgS rgV rgF; decide)), if_neg (m _ (by unfold rgL rgS rgV rgF; decide)), if_neg (m _ (by unfold rgL rgS rgV rgF; decide)), if_neg (m _ (by unfold rgL rgS rgV rgF; decide)), if_neg (m _ (by unfold rgL rgS rgV rgF; decide)), if_neg (m _ (by unfold rgL rgS rgV rgF; decide)), if_neg (m _ (by unfold rgL rgS rgV rgF; decide))]
  have nC : ∀ r, rgC r → ¬ (301 ≤ r ∧ r ≤ 304) := fun r hr => by unfold rgC at hr; omega
  have nB : cn6 (mp a rgL 0 24 (gJo l n a)) := cn6_of (fun q _ _ => ⟨mp_r (by unfold rgL rgS rgV rgF; decide), mp_r (by unfold rgL rgS rgV rgF; decide), mp_r (by unfold rgL rgS rgV rgF; decide)⟩) n6
  have cB : iC (mp a rgL 0 24 (gJo l n a)) := fun k u v => by
    rw [mp_r (by unfold rgL rgS rgV rgF; decide)]
    exact c k u v
  have t3 : ∀ (k : Nat) (j : Nat) (v4 : vv), j + k = 4 → vrun mX13_joinsLayers 179 [(1, 282), (0, l), (0, n), (0, j), v4] [] (mp (dFn j (mp a rgL 0 24 (gJo l n a))) rgC 0 j (gJo l n a)) = some (.inl none, mp (dFn 4 (mp a rgL 0 24 (gJo l n a))) rgC 0 4 (gJo l n a)) := by
    intro k
    induction k with
    | zero =>
      intro j v4 hj
      have ej : j = 4 := by omega
      subst ej
      exact (rX13_joinsLayers_179 (shModel_sx (sx_tr mp_sx (sx_tr (dFn_sx 4) mp_sx)) sM) (by omega) (by omega) (by omega) (by omega) (by omega) (by omega) (by omega) (by omega) (by omega) (by omega) (by omega) (by omega) (by omega)).trans (if_pos (by omega))
    | succ k ih =>
      intro j v4 hj
      have h0 : (0 : Int) ≤ j := by omega
      have j4 : (j : Int) < 4 := by omega
      have rd : ∀ r, rgC r → mp (dFn j (mp a rgL 0 24 (gJo l n a))) rgC 0 j (gJo l n a) 2 r j = a 2 r j := fun r hr => (mp_i (by omega)).trans ((dFn_o nB (by unfold rgC at hr; omega) j (by omega)).trans (mp_r (by unfold rgC at hr; unfold rgL rgS rgV rgF; omega)))
      have r1 := rd 305 (by unfold rgC; decide)
      have r2 := rd 306 (by unfold rgC; decide)
      have r3 := rd 308 (by unfold rgC; decide)
      have r4 := rd 309 (by unfold rgC; decide)
      have n6j := dFn_n6 j (by omega) nB
      have r5 : mp (dFn j (mp a rgL 0 24 (gJo l n a))) rgC 0 j (gJo l n a) 2 301 j = dFn j (mp a rgL 0 24 (gJo l n a)) 2 301 j := mp_r (by unfold rgC; decide)
      have f6 := (n6j j (by omega) (by omega)).2.2
      have b1 := bd.2 306 j (by unfold rgC; decide) h0 (by omega)
      have b2 := bd.2 309 j (by unfold rgC; decide) h0 (by omega)
      have b3 := bd.2 305 j (by unfold rgC; decide) h0 (by omega)
      have b4 := bd.2 308 j (by unfold rgC; decide) h0 (by omega)
      have e0 := rX13_joinsLayers_179 (x1 := l) (x2 := n) (x3 := j) (v4 := v4) (h := mp (dFn j (mp a rgL 0 24 (gJo l n a))) rgC 0 j (gJo l n a)) (shModel_sx (sx_tr mp_sx (sx_tr (dFn_sx j) mp_sx)) sM) (by omega)
      rw [r1, r2, r3, r4, r5] at e0
      have e1 := e0 (by omega) (by omega) (fun _ => by split <;> omega) (fun _ => by split <;> omega) (fun _ => by split <;> omega) (fun _ => by split <;> omega) (fun _ => by split <;> omega) (fun _ => by split <;> omega) (fun _ => by split <;> omega) (fun _ => by split <;> omega) (by omega) (by omega)
      have e2 : vup (vup (vup (vup (mp (dFn j (mp a rgL 0 24 (gJo l n a))) rgC 0 j (gJo l n a)) 2 306 j (a 2 306 j + (if a 2 305 j = l + 1 then n else 0))) 2 305 j (a 2 305 j - (if ¬ (a 2 305 j ≤ l) then 1 else 0))) 2 309 j (a 2 309 j + (if a 2 308 j = l + 1 then n else 0))) 2 308 j (a 2 308 j - (if ¬ (a 2 308 j ≤ l) then 1 else 0)) = mp (dFn j (mp a rgL 0 24 (gJo l n a))) rgC 0 (j + 1) (gJo l n a) := by
        refine mp_next h0 (fun r hr => ?_) (fun k r i n => ?_)
        · unfold rgC at hr
          rcases hr with e | e | e | e <;> subst e
          · exact (vup_r (by decide)).trans ((vup_r (by decide)).trans vup_s)
          · exact (vup_r (by decide)).trans ((vup_r (by decide)).trans ((vup_r (by decide)).trans vup_s))
          · exact vup_s
          · exact (vup_r (by decide)).trans vup_s
        · have m : ∀ q : Int, rgC q → ¬ (k = 2 ∧ r = q ∧ i = j) := fun q hq z => n ⟨z.1, by rw [z.2.1]; exact hq, z.2.2⟩
          unfold vup
          rw [if_neg (m _ (by unfold rgC; decide)), if_neg (m _ (by unfold rgC; decide)), if_neg (m _ (by unfold rgC; decide)), if_neg (m _ (by unfold rgC; decide))]
      have r6 : mp (dFn j (mp a rgL 0 24 (gJo l n a))) rgC 0 (j + 1) (gJo l n a) 2 301 j = dFn j (mp a rgL 0 24 (gJo l n a)) 2 301 j := mp_r (by unfold rgC; decide)
      have D := M_dropsFk (l := l) (n := n) (p := (j : Int)) ⟨h0, j4⟩ (dFn j (mp a rgL 0 24 (gJo l n a)) 2 301 j).toNat (mp (dFn j (mp a rgL 0 24 (gJo l n a))) rgC 0 (j + 1) (gJo l n a)) (shModel_sx (sx_tr mp_sx (sx_tr (dFn_sx j) mp_sx)) sM) (fun k u v => by
        rw [mp_r (by unfold rgC; decide)]
        exact iC_dFn nB cB j (by omega) k u v) (by rw [r6]; omega) (by rw [r6]; omega)
      rw [dFk_mp nC] at D
      have ih' := ih (j + 1) (0, -1) (by omega)
      rw [show ((j + 1 : Nat) : Int) = (j : Int) + 1 by omega] at ih'
      rw [show (((dFn j (mp a rgL 0 24 (gJo l n a)) 2 301 j).toNat : Nat) : Int) = dFn j (mp a rgL 0 24 (gJo l n a)) 2 301 j by omega] at D
      exact e1.trans ((if_neg (by omega)).trans ((congrArg _ e2).trans (D.trans ih')))
  obtain ⟨v4, z2⟩ := t2 24 0 (9, 0) (by decide) (by decide)
  rw [mp_0] at z2
  have z3 := t3 4 0 v4 (by decide)
  have z4 : mp (dFn 0 (mp a rgL 0 24 (gJo l n a))) rgC 0 ((0 : Nat) : Int) (gJo l n a) = mp a rgL 0 24 (gJo l n a) := mp_0
  rw [z4] at z3
  have z5 : mp (dFn 4 (mp a rgL 0 24 (gJo l n a))) rgC 0 4 (gJo l n a) = dFn 4 (TT (gJo l n) a 4) := by
    have e : TT (gJo l n) a 4 = mp (mp a rgL 0 24 (gJo l n a)) rgC 0 4 (gJo l n a) := rfl
    rw [e]
    unfold dFn dFn dFn dFn dFn
    rw [dF_mp nC, dF_mp nC, dF_mp nC, dF_mp nC]
  rw [z5] at z3
  exact (show _ = _ from rX13_joinsLayers_0).trans (z2.trans z3)
end JN2
