/-! signs go: the class -/
/-- a pane goes through -/
noncomputable def oD (G : Int → Int → Int) (a : vH) (p : Int) : vH := aTp (aCu (mp (dEk p (a 2 293 p).toNat (mp a rgS (6 * p) (6 * p + a 2 293 p) G)) rgV (6 * p) (6 * p + a 2 297 p) G) p (G 305 p) (G 306 p)) p (G 308 p) (G 309 p)
section CWE
variable {h h2 a b : vH} {p q P Q X l x s f u t j st r l0 x0 n : Int}
theorem C_plWent (s : shPlace h r) (c : cPl h r st l0 x0) (b : -1000000 ≤ x0 ∧ x0 ≤ 1000000) (hf : 0 ≤ f ∧ f < u) (hu : u ≤ 80) : vcl mX7_signsWent [(1, r), (0, l), (0, f), (0, u)] h = some (.inl none, pS h r l0 (weX l f u l0 x0)) := by
  obtain ⟨c1, c2, c3⟩ := c
  have b1 : -1000000 ≤ h 902 r 0 ∧ h 902 r 0 ≤ 1000000 := by rw [c3]; exact b
  refine (show _ = _ from rX7_signsWent_0 s (fun _ _ _ => by omega) (fun _ _ _ => by omega) (fun _ _ _ => by omega) (fun _ _ _ => by omega)).trans ?_
  have e1 : pS h r l0 (weX l f u l0 x0) = vup h 902 r 0 (weX l f u l0 x0) := by
    unfold pS
    rw [vup_same c2]
  rw [e1, show h 902 r 0 = x0 from c3, show h 901 r 0 = l0 from c2]
  unfold weX
  by_cases z1 : l0 = l
  · rw [if_pos z1, if_pos z1]
    by_cases z2 : f < x0
    · rw [if_neg (by omega), if_pos z2]
      by_cases z3 : u ≤ x0
      · rw [if_neg (by omega), if_pos z3]
      · rw [if_pos (by omega), if_neg z3]
    · rw [if_pos (by omega), if_neg z2, vup_same c3]
  · rw [if_neg z1, if_neg z1, vup_same c3]
theorem weX_mono {x1 : Int} (e : X ≤ x1) (hf : 0 ≤ f ∧ f < u) : weX l f u l0 X ≤ weX l f u l0 x1 := by
  unfold weX
  by_cases z : l0 = l
  · rw [if_pos z, if_pos z]
    split <;> split <;> (try split) <;> (try split) <;> omega
  · rw [if_neg z, if_neg z]
    exact e
/-- one span is through, from the last one down -/
theorem dEk_mp {g : vH → Int → Int → Int} (gl : gLoc g) (k : Nat) : dEk p (k + 1) (mp a rgS (6 * p) (6 * p + ((k + 1 : Nat) : Int)) (g a)) = dEk p k (mp (if aSp a (6 * p + k) (g a 294 (6 * p + k)) (g a 295 (6 * p + k)) (g a 296 (6 * p + k)) 2 295 (6 * p + k) = aSp a (6 * p + k) (g a 294 (6 * p + k)) (g a 295 (6 * p + k)) (g a 296 (6 * p + k)) 2 296 (6 * p + k) then dR (aSp a (6 * p + k) (g a 294 (6 * p + k)) (g a 295 (6 * p + k)) (g a 296 (6 * p + k))) p 0 k else aSp a (6 * p + k) (g a 294 (6 * p + k)) (g a 295 (6 * p + k)) (g a 296 (6 * p + k))) rgS (6 * p) (6 * p + k) (g (if aSp a (6 * p + k) (g a 294 (6 * p + k)) (g a 295 (6 * p + k)) (g a 296 (6 * p + k)) 2 295 (6 * p + k) = aSp a (6 * p + k) (g a 294 (6 * p + k)) (g a 295 (6 * p + k)) (g a 296 (6 * p + k)) 2 296 (6 * p + k) then dR (aSp a (6 * p + k) (g a 294 (6 * p + k)) (g a 295 (6 * p + k)) (g a 296 (6 * p + k))) p 0 k else aSp a (6 * p + k) (g a 294 (6 * p + k)) (g a 295 (6 * p + k)) (g a 296 (6 * p + k))))) := by
  have hA : ∀ i, ¬ i = 6 * p + k → ∀ r, aSp a (6 * p + k) (g a 294 (6 * p + k)) (g a 295 (6 * p + k)) (g a 296 (6 * p + k)) 2 r i = a 2 r i := fun i ni r => aSp_n ni r
  have hB : ∀ r, rgS r → aSp a (6 * p + k) (g a 294 (6 * p + k)) (g a 295 (6 * p + k)) (g a 296 (6 * p + k)) 2 r (6 * p + k) = g a r (6 * p + k) := fun r hr => by
    unfold rgS at hr
    rcases (show r = 294 ∨ r = 295 ∨ r = 296 by omega) with e | e | e <;> subst e
    · exact aSp_1.1
    · exact aSp_1.2.1
    · exact aSp_1.2.2
  have hO : ∀ (kk : Nat) (r i : Int), ¬ (kk = 2 ∧ rgS r ∧ i = 6 * p + k) → aSp a (6 * p + k) (g a 294 (6 * p + k)) (g a 295 (6 * p + k)) (g a 296 (6 * p + k)) kk r i = a kk r i := fun kk r i n => by
    unfold aSp vup
    rw [if_neg (fun z => n ⟨z.1, by unfold rgS; omega, z.2.2⟩), if_neg (fun z => n ⟨z.1, by unfold rgS; omega, z.2.2⟩), if_neg (fun z => n ⟨z.1, by unfold rgS; omega, z.2.2⟩)]
  generalize aSp a (6 * p + k) (g a 294 (6 * p + k)) (g a 295 (6 * p + k)) (g a 296 (6 * p + k)) = a1 at hA hB hO ⊢
  have gE : ∀ r i, rgS r → ¬ i = 6 * p + k → g a1 r i = g a r i := fun r i hr ni => gl.1 _ _ _ _ (Or.inl hr) (fun q _ _ => hA i ni q)
  have E1 : mp a rgS (6 * p) (6 * p + ((k + 1 : Nat) : Int)) (g a) = mp a1 rgS (6 * p) (6 * p + k) (g a1) := by
    funext kk r i
    by_cases z : kk = 2 ∧ rgS r
    · obtain ⟨z1, z2⟩ := z
      subst z1
      by_cases y : i = 6 * p + k
      · rw [y, mp_in z2 (by omega) (by omega), mp_i (by omega), hB r z2]
      · by_cases w : 6 * p ≤ i ∧ i < 6 * p + k
        · rw [mp_in z2 w.1 (by omega), mp_in z2 w.1 w.2, gE r i z2 y]
        · rw [mp_i (by omega), mp_i w, hA i y]
    · have n1 : ∀ {lo hi : Int}, ¬ (kk = 2 ∧ rgS r ∧ lo ≤ i ∧ i < hi) := fun w => z ⟨w.1, w.2.1⟩
      exact (if_neg n1).trans ((hO kk r i (fun w => z ⟨w.1, w.2.1⟩)).symm.trans (if_neg n1).symm)
  have c1 : mp a1 rgS (6 * p) (6 * p + k) (g a1) 2 295 (6 * p + k) = a1 2 295 (6 * p + k) := mp_i (by omega)
  have c2 : mp a1 rgS (6 * p) (6 * p + k) (g a1) 2 296 (6 * p + k) = a1 2 296 (6 * p + k) := mp_i (by omega)
  have E2 : dR (mp a1 rgS (6 * p) (6 * p + k) (g a1)) p 0 k = mp (dR a1 p 0 k) rgS (6 * p) (6 * p + k) (g (dR a1 p 0 k)) := by
    have cn : mp a1 rgS (6 * p) (6 * p + k) (g a1) 2 (293 + 4 * 0) p = a1 2 (293 + 4 * 0) p := mp_r (by unfold rgS; decide)
    funext kk r i
    by_cases z : (kk = 2 ∧ rgS r) ∧ 6 * p ≤ i ∧ i < 6 * p + k
    · obtain ⟨⟨z1, z2⟩, z3, z4⟩ := z
      subst z1
      have e1 : dR (mp a1 rgS (6 * p) (6 * p + k) (g a1)) p 0 k 2 r i = mp a1 rgS (6 * p) (6 * p + k) (g a1) 2 r i := by
        unfold dR
        rw [if_neg (by unfold rgS at z2; omega), if_neg (by omega)]
      rw [e1, mp_in z2 z3 z4, mp_in z2 z3 z4]
      refine (gl.1 _ _ _ _ (Or.inl z2) (fun q u v => ?_)).symm
      unfold dR
      rw [if_neg (by omega), if_neg (by omega)]
    · have e2 : mp (dR a1 p 0 k) rgS (6 * p) (6 * p + k) (g (dR a1 p 0 k)) kk r i = dR a1 p 0 k kk r i := if_neg (fun w => z ⟨⟨w.1, w.2.1⟩, w.2.2⟩)
      rw [e2]
      unfold dR
      rw [cn]
      by_cases y : kk = 2 ∧ r = 293 + 4 * 0 ∧ i = p
      · rw [if_pos y, if_pos y]
      · rw [if_neg y, if_neg y]
        by_cases w : kk = 2 ∧ (294 + 4 * 0 ≤ r ∧ r ≤ 296 + 4 * 0) ∧ 6 * p + k ≤ i ∧ i < 6 * p + a1 2 (293 + 4 * 0) p - 1
        · rw [if_pos w, if_pos w, mp_i (by omega)]
        · rw [if_neg w, if_neg w]
          exact if_neg (fun w => z ⟨⟨w.1, w.2.1⟩, w.2.2⟩)
  rw [E1]
  show dEk p k (if mp a1 rgS (6 * p) (6 * p + k) (g a1) 2 295 (6 * p + k) = mp a1 rgS (6 * p) (6 * p + k) (g a1) 2 296 (6 * p + k) then dR (mp a1 rgS (6 * p) (6 * p + k) (g a1)) p 0 k else mp a1 rgS (6 * p) (6 * p + k) (g a1)) = _
  rw [c1, c2]
  by_cases z : a1 2 295 (6 * p + k) = a1 2 296 (6 * p + k)
  · rw [if_pos z, if_pos z, E2]
  · rw [if_neg z, if_neg z]
theorem C_spWent (hp : 0 ≤ p ∧ p < 4) (hf : 0 ≤ f ∧ f < u) (hu : u ≤ 80) : ∀ (k : Nat) (h1 a1 : vH) (v5 : vv), (k : Int) ≤ a1 2 293 p → cW h1 a1 → cn6 a1 → iD h1 → lF h h1 → (∀ i, 6 * p ≤ i → i < 6 * p + k → (-1000000 ≤ a1 2 295 i ∧ a1 2 295 i ≤ 1000000) ∧ (-1000000 ≤ a1 2 296 i ∧ a1 2 296 i ≤ 1000000) ∧ a1 2 295 i ≤ a1 2 296 i) → ∃ h2 v6, vrun mX2_signsWent 11 [(1, 138 + 36 * p + 1), (0, l), (0, f), (0, u), (0, (k : Int) - 1), v5] [] h1 = vrun mX2_signsWent 90 [(1, 138 + 36 * p + 1), (0, l), (0, f), (0, u), (0, 0), v6] [] h2 ∧ lF h h2 ∧ iD h2 ∧ cW h2 (dEk p k (mp a1 rgS (6 * p) (6 * p + k) (gWe l f u a1)))
  | 0, h1, a1, v5, _, W, _, I, F, _ => by
    have L := (W.2.2.1 p hp.1 hp.2).2.1.2.1
    refine ⟨h1, v5, (rX2_signsWent_11 L.1 (fun _ => L.2.1.1) (by omega) (by omega) (by omega) (by omega) (by omega)).trans (if_pos (by omega)), F, I, ?_⟩
    show cW h1 (mp a1 rgS (6 * p) (6 * p + ((0 : Nat) : Int)) (gWe l f u a1))
    rw [show 6 * p + ((0 : Nat) : Int) = 6 * p by omega, mp_0]
    exact W
  | k + 1, h1, a1, v5, hk, W, n6, I, F, bd => by
    have L := (W.2.2.1 p hp.1 hp.2).2.1.2.1
    have p6 := (n6 p hp.1 hp.2).1
    obtain ⟨k1, k2⟩ := L.2.1.2.2 (by omega)
    have es : h1 102 (138 + 36 * p + 1 + 1) 0 = a1 2 293 p := L.2.1.2.1
    obtain ⟨m1, m2, m3⟩ := L.2.2.2.2.1 k (by omega) (by omega)
    have E3 := cW_eS W hp (j := (k : Int)) ⟨by omega, by omega⟩
    obtain ⟨b1, b2, b3⟩ := bd (6 * p + k) (by omega) (by omega)
    have g1 : gWe l f u a1 294 (6 * p + k) = a1 2 294 (6 * p + k) := rfl
    have g2 : gWe l f u a1 295 (6 * p + k) = weX l f u (a1 2 294 (6 * p + k)) (a1 2 295 (6 * p + k)) := rfl
    have g3 : gWe l f u a1 296 (6 * p + k) = weX l f u (a1 2 294 (6 * p + k)) (a1 2 296 (6 * p + k)) := rfl
    have W2 := cW_sp (l := gWe l f u a1 294 (6 * p + k)) (f := gWe l f u a1 295 (6 * p + k)) (t := gWe l f u a1 296 (6 * p + k)) W n6 hp (j := (k : Int)) ⟨by omega, by omega⟩
    have X1 := lF_sx (lF_pS (h := h1) (X := lE h1 (138 + 36 * p + 1 + 1) k + 1) (l := gWe l f u a1 294 (6 * p + k)) (x := gWe l f u a1 295 (6 * p + k)) (by omega))
    have F1 : lF h1 (pS (pS h1 (lE h1 (138 + 36 * p + 1 + 1) k + 1) (gWe l f u a1 294 (6 * p + k)) (gWe l f u a1 295 (6 * p + k))) (lE h1 (138 + 36 * p + 1 + 1) k + 2) (gWe l f u a1 294 (6 * p + k)) (gWe l f u a1 296 (6 * p + k))) := lF_tr (lF_pS (by omega)) (lF_pS (by omega))
    have X2 := lF_sx F1
    have r1 := C_plWent (l := l) (r := lE h1 (138 + 36 * p + 1 + 1) k + 1) m1.2.2.1 m2 b1 hf hu
    have m3' := pS_off (X := lE h1 (138 + 36 * p + 1 + 1) k + 1) (l := gWe l f u a1 294 (6 * p + k)) (x := gWe l f u a1 295 (6 * p + k)) (by omega) m3
    have r2 := C_plWent (l := l) (r := lE h1 (138 + 36 * p + 1 + 1) k + 2) (shPlace_sx X1 m1.2.2.2.2) m3' b2 hf hu
    have mo := weX_mono (l := l) (l0 := a1 2 294 (6 * p + k)) b3 hf
    have c1 := (pS_off (X := lE h1 (138 + 36 * p + 1 + 1) k + 2) (l := gWe l f u a1 294 (6 * p + k)) (x := gWe l f u a1 296 (6 * p + k)) (by omega) (pS_own (X := lE h1 (138 + 36 * p + 1 + 1) k + 1) (l := gWe l f u a1 294 (6 * p + k)) (x := gWe l f u a1 295 (6 * p + k)) m2)).2.2
    have c2 := (pS_own (X := lE h1 (138 + 36 * p + 1 + 1) k + 2) (l := gWe l f u a1 294 (6 * p + k)) (x := gWe l f u a1 296 (6 * p + k)) m3').2.2
    have e0 : vrun mX2_signsWent 11 [(1, 138 + 36 * p + 1), (0, l), (0, f), (0, u), (0, ((k + 1 : Nat) : Int) - 1), v5] [] h1 = vrun mX2_signsWent 52 [(1, 138 + 36 * p + 1), (0, l), (0, f), (0, u), (0, (k : Int)), (1, lE h1 (138 + 36 * p + 1 + 1) k)] [] (pS (pS h1 (lE h1 (138 + 36 * p + 1 + 1) k + 1) (gWe l f u a1 294 (6 * p + k)) (gWe l f u a1 295 (6 * p + k))) (lE h1 (138 + 36 * p + 1 + 1) k + 2) (gWe l f u a1 294 (6 * p + k)) (gWe l f u a1 296 (6 * p + k))) := by
      rw [show ((k + 1 : Nat) : Int) - 1 = (k : Int) by omega]
      refine (rX2_signsWent_11 L.1 (fun _ => L.2.1.1) (fun z => z) (fun _ => by omega) (fun _ => k1) (fun _ => by omega) (fun _ => m1)).trans ((if_neg (by omega)).trans ?_)
      refine (vret_n r1).trans ((rX2_signsWent_41 (shSpan_sx X1 m1)).trans ?_)
      exact vret_n r2
    rw [dEk_mp gWe_loc k]
    have a1e := aSp_1 (a := a1) (K := 6 * p + k) (l := gWe l f u a1 294 (6 * p + k)) (f := gWe l f u a1 295 (6 * p + k)) (t := gWe l f u a1 296 (6 * p + k))
    have n6' : cn6 (aSp a1 (6 * p + k) (gWe l f u a1 294 (6 * p + k)) (gWe l f u a1 295 (6 * p + k)) (gWe l f u a1 296 (6 * p + k))) := n6
    have bd' : ∀ i, 6 * p ≤ i → i < 6 * p + k → (-1000000 ≤ aSp a1 (6 * p + k) (gWe l f u a1 294 (6 * p + k)) (gWe l f u a1 295 (6 * p + k)) (gWe l f u a1 296 (6 * p + k)) 2 295 i ∧ aSp a1 (6 * p + k) (gWe l f u a1 294 (6 * p + k)) (gWe l f u a1 295 (6 * p + k)) (gWe l f u a1 296 (6 * p + k)) 2 295 i ≤ 1000000) ∧ (-1000000 ≤ aSp a1 (6 * p + k) (gWe l f u a1 294 (6 * p + k)) (gWe l f u a1 295 (6 * p + k)) (gWe l f u a1 296 (6 * p + k)) 2 296 i ∧ aSp a1 (6 * p + k) (gWe l f u a1 294 (6 * p + k)) (gWe l f u a1 295 (6 * p + k)) (gWe l f u a1 296 (6 * p + k)) 2 296 i ≤ 1000000) ∧ aSp a1 (6 * p + k) (gWe l f u a1 294 (6 * p + k)) (gWe l f u a1 295 (6 * p + k)) (gWe l f u a1 296 (6 * p + k)) 2 295 i ≤ aSp a1 (6 * p + k) (gWe l f u a1 294 (6 * p + k)) (gWe l f u a1 295 (6 * p + k)) (gWe l f u a1 296 (6 * p + k)) 2 296 i := fun i v w => by
      rw [aSp_n (by omega), aSp_n (by omega)]
      exact bd i v (by omega)
    have I2 := iD_lF F1 I
    have F2 := lF_tr F F1
    have e5 := rX2_signsWent_52 (x0 := 138 + 36 * p + 1) (x1 := l) (x2 := f) (x3 := u) (x4 := (k : Int)) (x5 := lE h1 (138 + 36 * p + 1 + 1) k) (shSpan_sx X2 m1) (by omega) (by omega) (shLayers_sx X2 L.1) (fun _ => shList_sx X2 L.2.1.1)
    by_cases z : gWe l f u a1 295 (6 * p + k) = gWe l f u a1 296 (6 * p + k)
    · rw [if_pos (by rw [a1e.2.1, a1e.2.2]; exact z)]
      rw [if_neg (by rw [show pS _ _ _ _ 902 (lE h1 (138 + 36 * p + 1 + 1) k + 1) 0 = _ from c1, show pS _ _ _ _ 902 (lE h1 (138 + 36 * p + 1 + 1) k + 2) 0 = _ from c2]; omega)] at e5
      obtain ⟨h3, ee, q1, q2, q3⟩ := cW_rm (t := 0) (j := (k : Int)) W2 I2 n6' hp (by decide) (by rw [nL_s]; exact ⟨by omega, by show (k : Int) < a1 2 293 p; omega⟩)
      rw [show 140 + 36 * p + 0 = 138 + 36 * p + 1 + 1 by omega] at q1
      have F3 := rmF_lF hp (by decide) q2
      have dn : dR (aSp a1 (6 * p + k) (gWe l f u a1 294 (6 * p + k)) (gWe l f u a1 295 (6 * p + k)) (gWe l f u a1 296 (6 * p + k))) p 0 k 2 293 p = a1 2 293 p - 1 := if_pos ⟨rfl, rfl, rfl⟩
      have dd : ∀ r i, 294 ≤ r → i < 6 * p + k → dR (aSp a1 (6 * p + k) (gWe l f u a1 294 (6 * p + k)) (gWe l f u a1 295 (6 * p + k)) (gWe l f u a1 296 (6 * p + k))) p 0 k 2 r i = aSp a1 (6 * p + k) (gWe l f u a1 294 (6 * p + k)) (gWe l f u a1 295 (6 * p + k)) (gWe l f u a1 296 (6 * p + k)) 2 r i := fun r i v w => by
        unfold dR
        rw [if_neg (by omega), if_neg (by omega)]
      obtain ⟨h4, v6, t1, t2, t3, t4⟩ := C_spWent hp hf hu k h3 _ (1, lE h1 (138 + 36 * p + 1 + 1) k) (by omega) q3 (dR_n6 n6' hp (by decide) (by rw [nL_s]; show 0 < a1 2 293 p; omega)) (iD_lF F3 I2) (lF_tr F2 F3) (fun i v w => by
        rw [dd _ i (by decide) w, dd _ i (by decide) w]
        exact bd' i v w)
      refine ⟨h4, v6, e0.trans (e5.trans ((vret_v q1).trans ((rX2_signsWent_80 (by omega) (by omega)).trans ?_))), t2, t3, t4⟩
      exact t1
    · rw [if_neg (by rw [a1e.2.1, a1e.2.2]; exact z)]
      rw [if_pos (by rw [show pS _ _ _ _ 902 (lE h1 (138 + 36 * p + 1 + 1) k + 1) 0 = _ from c1, show pS _ _ _ _ 902 (lE h1 (138 + 36 * p + 1 + 1) k + 2) 0 = _ from c2]; omega)] at e5
      obtain ⟨h4, v6, t1, t2, t3, t4⟩ := C_spWent hp hf hu k _ (aSp a1 (6 * p + k) (gWe l f u a1 294 (6 * p + k)) (gWe l f u a1 295 (6 * p + k)) (gWe l f u a1 296 (6 * p + k))) (1, lE h1 (138 + 36 * p + 1 + 1) k) (show (k : Int) ≤ a1 2 293 p by omega) W2 n6' I2 F2 bd'
      exact ⟨h4, v6, e0.trans (e5.trans t1), t2, t3, t4⟩
end CWE

