/-! two lines are joined: panes of the class -/
/-- a pane goes through -/
noncomputable def oJ (G : Int → Int → Int) (a : vH) (p : Int) : vH := aTp (aCu (dFk p (a 2 301 p).toNat (mp (mp (mp a rgS (6 * p) (6 * p + a 2 293 p) G) rgV (6 * p) (6 * p + a 2 297 p) G) rgF (6 * p) (6 * p + a 2 301 p) G)) p (G 305 p) (G 306 p)) p (G 308 p) (G 309 p)
section CJN
variable {h h2 a b : vH} {p q P Q X l x s f u t j st r l0 x0 n E L F T : Int}
theorem C_plJoin (s : shPlace h r) (c : cPl h r st l0 x0) (b0 : -1000000 ≤ l0 ∧ l0 ≤ 1000000) (b : -1000000 ≤ x0 ∧ x0 ≤ 1000000) (hl : 0 ≤ l ∧ l < 60) (hn : 0 ≤ n ∧ n ≤ 80) : vcl mX7_linesJoined [(1, r), (0, l), (0, n)] h = some (.inl none, pS h r (jnL l l0) (jnX l n l0 x0)) := by
  obtain ⟨c1, c2, c3⟩ := c
  have b1 : -1000000 ≤ h 902 r 0 ∧ h 902 r 0 ≤ 1000000 := by rw [c3]; exact b
  have b2 : -1000000 ≤ h 901 r 0 ∧ h 901 r 0 ≤ 1000000 := by rw [c2]; exact b0
  have e0 := (show vcl mX7_linesJoined [(1, r), (0, l), (0, n)] h = _ from rX7_linesJoined_0 (x0 := r) (x1 := l) (x2 := n) s (by omega) (by omega) (fun _ => by omega) (fun _ => by omega) (fun _ => by omega) (fun _ => by omega))
  rw [show h 902 r 0 = x0 from c3, show h 901 r 0 = l0 from c2] at e0
  refine e0.trans ?_
  have eA : ∀ H : vH, H 902 r 0 = x0 → vup H 902 r 0 x0 = H := fun H z => vup_same z
  have eL : vup h 901 r 0 l0 = h := vup_same c2
  have cA : ∀ v w : Int, vup (vup h 902 r 0 v) 901 r 0 w = vup (vup h 901 r 0 w) 902 r 0 v := fun v w => by
    funext k q i
    unfold vup
    by_cases z : k = 901 ∧ q = r ∧ i = 0
    · rw [if_pos z, if_neg (by omega), if_pos z]
    · rw [if_neg z]
      by_cases y : k = 902 ∧ q = r ∧ i = 0
      · rw [if_pos y, if_pos y]
      · rw [if_neg y, if_neg y, if_neg z]
  unfold jnL jnX pS
  by_cases z1 : l0 ≤ l
  · rw [if_pos z1, if_neg (show ¬ l0 = l + 1 by omega), if_neg (fun w => w z1), if_neg (show ¬ l0 = l + 1 by omega), Int.sub_zero, Int.add_zero, eL, eA h c3]
  · rw [if_neg z1, if_pos z1]
    by_cases z2 : l0 = l + 1
    · rw [if_pos z2, if_pos z2, cA]
    · rw [if_neg z2, if_neg z2, Int.add_zero, eA _ ((vup_k (by decide)).trans c3)]
theorem C_foJoin (s : shFold h E) (c1 : h 300 E 0 = F) (c2 : h 301 E 0 = T) (bF : -1000000 ≤ F ∧ F ≤ 1000000) (bT : -1000000 ≤ T ∧ T ≤ 1000000) : vcl mX1_linesJoined [(1, E), (0, l)] h = some (.inl none, fS h E (jnL l F) (jnL l T)) := by
  have c1' : h 300 E 0 = F := c1
  have c2' : h 301 E 0 = T := c2
  have e0 := (show vcl mX1_linesJoined [(1, E), (0, l)] h = _ from rX1_linesJoined_0 (x1 := l) s (fun _ => by omega) (fun _ => by omega) (fun _ => by omega) (fun _ => by omega))
  rw [c1', c2'] at e0
  refine e0.trans ?_
  have s1 : vup h 300 E 0 F = h := vup_same c1
  have s2 : ∀ H : vH, H 301 E 0 = T → vup H 301 E 0 T = H := fun H e => vup_same e
  unfold fS jnL
  by_cases z2 : T ≤ l
  · rw [if_pos z2]
    by_cases z1 : F ≤ l
    · rw [if_pos z1, if_neg (show ¬ ¬ F ≤ l from fun w => w z1), if_neg (show ¬ ¬ T ≤ l from fun w => w z2), Int.sub_zero, Int.sub_zero, s1, s2 h c2]
    · rw [if_neg z1, if_pos z1, if_neg (show ¬ ¬ T ≤ l from fun w => w z2), Int.sub_zero, s2 _ ((vup_k (by decide)).trans c2)]
  · rw [if_neg z2, if_pos z2]
    by_cases z1 : F ≤ l
    · rw [if_pos z1, if_neg (show ¬ ¬ F ≤ l from fun w => w z1), Int.sub_zero, s1]
    · rw [if_neg z1, if_pos z1]
theorem jnL_m (e : F ≤ T) : jnL l F ≤ jnL l T := by
  unfold jnL
  split <;> split <;> omega
/-- one fold is through, from the last one down -/
theorem gJo_F {i : Int} (hr : rgF r) : gJo l n a r i = jnL l (a 2 r i) := by
  unfold rgF at hr
  rcases (show r = 302 ∨ r = 303 by omega) with e | e <;> subst e <;> rfl
theorem dFk_mpF (k : Nat) : dFk p (k + 1) (mp a rgF (6 * p) (6 * p + ((k + 1 : Nat) : Int)) (gJo l n a)) = dFk p k (mp (if aFo a (6 * p + k) (gJo l n a 302 (6 * p + k)) (gJo l n a 303 (6 * p + k)) 2 302 (6 * p + k) = aFo a (6 * p + k) (gJo l n a 302 (6 * p + k)) (gJo l n a 303 (6 * p + k)) 2 303 (6 * p + k) then dR (aFo a (6 * p + k) (gJo l n a 302 (6 * p + k)) (gJo l n a 303 (6 * p + k))) p 2 k else aFo a (6 * p + k) (gJo l n a 302 (6 * p + k)) (gJo l n a 303 (6 * p + k))) rgF (6 * p) (6 * p + k) (gJo l n (if aFo a (6 * p + k) (gJo l n a 302 (6 * p + k)) (gJo l n a 303 (6 * p + k)) 2 302 (6 * p + k) = aFo a (6 * p + k) (gJo l n a 302 (6 * p + k)) (gJo l n a 303 (6 * p + k)) 2 303 (6 * p + k) then dR (aFo a (6 * p + k) (gJo l n a 302 (6 * p + k)) (gJo l n a 303 (6 * p + k))) p 2 k else aFo a (6 * p + k) (gJo l n a 302 (6 * p + k)) (gJo l n a 303 (6 * p + k))))) := by
  have hA : ∀ i, ¬ i = 6 * p + k → ∀ r, aFo a (6 * p + k) (gJo l n a 302 (6 * p + k)) (gJo l n a 303 (6 * p + k)) 2 r i = a 2 r i := fun i ni r => aFo_n ni r
  have hB : ∀ r, rgF r → aFo a (6 * p + k) (gJo l n a 302 (6 * p + k)) (gJo l n a 303 (6 * p + k)) 2 r (6 * p + k) = gJo l n a r (6 * p + k) := fun r hr => by
    unfold rgF at hr
    rcases (show r = 302 ∨ r = 303 by omega) with e | e <;> subst e
    · exact aFo_1.1
    · exact aFo_1.2
  have hO : ∀ (kk : Nat) (r i : Int), ¬ (kk = 2 ∧ rgF r ∧ i = 6 * p + k) → aFo a (6 * p + k) (gJo l n a 302 (6 * p + k)) (gJo l n a 303 (6 * p + k)) kk r i = a kk r i := fun kk r i n => by
    unfold aFo vup
    rw [if_neg (fun z => n ⟨z.1, by unfold rgF; omega, z.2.2⟩), if_neg (fun z => n ⟨z.1, by unfold rgF; omega, z.2.2⟩)]
  generalize aFo a (6 * p + k) (gJo l n a 302 (6 * p + k)) (gJo l n a 303 (6 * p + k)) = a1 at hA hB hO ⊢
  have gE : ∀ r i, rgF r → ¬ i = 6 * p + k → gJo l n a1 r i = gJo l n a r i := fun r i hr ni => by rw [gJo_F hr, gJo_F hr, hA i ni]
  have E1 : mp a rgF (6 * p) (6 * p + ((k + 1 : Nat) : Int)) (gJo l n a) = mp a1 rgF (6 * p) (6 * p + k) (gJo l n a1) := by
    funext kk r i
    by_cases z : kk = 2 ∧ rgF r
    · obtain ⟨z1, z2⟩ := z
      subst z1
      by_cases y : i = 6 * p + k
      · rw [y, mp_in z2 (by omega) (by omega), mp_i (by omega), hB r z2]
      · by_cases w : 6 * p ≤ i ∧ i < 6 * p + k
        · rw [mp_in z2 w.1 (by omega), mp_in z2 w.1 w.2, gE r i z2 y]
        · rw [mp_i (by omega), mp_i w, hA i y]
    · have n1 : ∀ {lo hi : Int}, ¬ (kk = 2 ∧ rgF r ∧ lo ≤ i ∧ i < hi) := fun w => z ⟨w.1, w.2.1⟩
      exact (if_neg n1).trans ((hO kk r i (fun w => z ⟨w.1, w.2.1⟩)).symm.trans (if_neg n1).symm)
  have c1 : mp a1 rgF (6 * p) (6 * p + k) (gJo l n a1) 2 302 (6 * p + k) = a1 2 302 (6 * p + k) := mp_i (by omega)
  have c2 : mp a1 rgF (6 * p) (6 * p + k) (gJo l n a1) 2 303 (6 * p + k) = a1 2 303 (6 * p + k) := mp_i (by omega)
  have E2 : dR (mp a1 rgF (6 * p) (6 * p + k) (gJo l n a1)) p 2 k = mp (dR a1 p 2 k) rgF (6 * p) (6 * p + k) (gJo l n (dR a1 p 2 k)) := by
    have cn : mp a1 rgF (6 * p) (6 * p + k) (gJo l n a1) 2 (293 + 4 * 2) p = a1 2 (293 + 4 * 2) p := mp_r (by unfold rgF; decide)
    funext kk r i
    by_cases z : (kk = 2 ∧ rgF r) ∧ 6 * p ≤ i ∧ i < 6 * p + k
    · obtain ⟨⟨z1, z2⟩, z3, z4⟩ := z
      subst z1
      have e1 : dR (mp a1 rgF (6 * p) (6 * p + k) (gJo l n a1)) p 2 k 2 r i = mp a1 rgF (6 * p) (6 * p + k) (gJo l n a1) 2 r i := by
        unfold dR
        rw [if_neg (by unfold rgF at z2; omega), if_neg (by omega)]
      rw [e1, mp_in z2 z3 z4, mp_in z2 z3 z4]
      rw [gJo_F z2, gJo_F z2]
      congr 1
      unfold dR
      rw [if_neg (by unfold rgF at z2; omega), if_neg (by omega)]
    · have e2 : mp (dR a1 p 2 k) rgF (6 * p) (6 * p + k) (gJo l n (dR a1 p 2 k)) kk r i = dR a1 p 2 k kk r i := if_neg (fun w => z ⟨⟨w.1, w.2.1⟩, w.2.2⟩)
      rw [e2]
      unfold dR
      rw [cn]
      by_cases y : kk = 2 ∧ r = 293 + 4 * 2 ∧ i = p
      · rw [if_pos y, if_pos y]
      · rw [if_neg y, if_neg y]
        by_cases w : kk = 2 ∧ (294 + 4 * 2 ≤ r ∧ r ≤ 296 + 4 * 2) ∧ 6 * p + k ≤ i ∧ i < 6 * p + a1 2 (293 + 4 * 2) p - 1
        · rw [if_pos w, if_pos w, mp_i (by omega)]
        · rw [if_neg w, if_neg w]
          exact if_neg (fun w => z ⟨⟨w.1, w.2.1⟩, w.2.2⟩)
  rw [E1]
  show dFk p k (if mp a1 rgF (6 * p) (6 * p + k) (gJo l n a1) 2 302 (6 * p + k) = mp a1 rgF (6 * p) (6 * p + k) (gJo l n a1) 2 303 (6 * p + k) then dR (mp a1 rgF (6 * p) (6 * p + k) (gJo l n a1)) p 2 k else mp a1 rgF (6 * p) (6 * p + k) (gJo l n a1)) = _
  rw [c1, c2]
  by_cases z : a1 2 302 (6 * p + k) = a1 2 303 (6 * p + k)
  · rw [if_pos z, if_pos z, E2]
  · rw [if_neg z, if_neg z]
theorem C_foJoined (hp : 0 ≤ p ∧ p < 4) (hl : 0 ≤ l ∧ l < 60) : ∀ (k : Nat) (h1 a1 : vH) (v4 : vv), (k : Int) ≤ a1 2 301 p → cW h1 a1 → cn6 a1 → iD h1 → lF h h1 → (∀ i, 6 * p ≤ i → i < 6 * p + k → (-1000000 ≤ a1 2 302 i ∧ a1 2 302 i ≤ 1000000) ∧ (-1000000 ≤ a1 2 303 i ∧ a1 2 303 i ≤ 1000000) ∧ a1 2 302 i ≤ a1 2 303 i) → ∃ h2, vrun mX2_linesJoined 105 [(1, 138 + 36 * p + 1), (0, l), (0, n), (0, (k : Int) - 1), v4] [] h1 = some (.inl none, h2) ∧ lF h h2 ∧ iD h2 ∧ cW h2 (dFk p k (mp a1 rgF (6 * p) (6 * p + k) (gJo l n a1)))
  | 0, h1, a1, v4, _, W, _, I, F, _ => by
    have L := (W.2.2.1 p hp.1 hp.2).2.1.2.1
    refine ⟨h1, (rX2_linesJoined_105 L.1 (fun _ => L.2.2.2.1.1) (by omega) (by omega) (by omega) (by omega) (by omega)).trans (if_pos (by omega)), F, I, ?_⟩
    show cW h1 (mp a1 rgF (6 * p) (6 * p + ((0 : Nat) : Int)) (gJo l n a1))
    rw [show 6 * p + ((0 : Nat) : Int) = 6 * p by omega, mp_0]
    exact W
  | k + 1, h1, a1, v4, hk, W, n6, I, F, bd => by
    have L := (W.2.2.1 p hp.1 hp.2).2.1.2.1
    have p6 := (n6 p hp.1 hp.2).2.2
    obtain ⟨k1, k2⟩ := L.2.2.2.1.2.2 (by omega)
    have es : h1 102 (138 + 36 * p + 1 + 3) 0 = a1 2 301 p := L.2.2.2.1.2.1
    obtain ⟨m1, m2, m3, m4⟩ := L.2.2.2.2.2.2 k (by omega) (by omega)
    have E3 := cW_eF W hp (j := (k : Int)) ⟨by omega, by omega⟩
    obtain ⟨b1, b2, b3⟩ := bd (6 * p + k) (by omega) (by omega)
    have g1 : gJo l n a1 302 (6 * p + k) = jnL l (a1 2 302 (6 * p + k)) := rfl
    have g2 : gJo l n a1 303 (6 * p + k) = jnL l (a1 2 303 (6 * p + k)) := rfl
    have W2 := cW_fo (f := gJo l n a1 302 (6 * p + k)) (t := gJo l n a1 303 (6 * p + k)) W n6 hp (j := (k : Int)) ⟨by omega, by omega⟩
    have F1 : lF h1 (fS h1 (lE h1 (138 + 36 * p + 1 + 3) k) (gJo l n a1 302 (6 * p + k)) (gJo l n a1 303 (6 * p + k))) := lF_fS (by omega)
    have X2 := lF_sx F1
    have r1 := C_foJoin (l := l) (E := lE h1 (138 + 36 * p + 1 + 3) k) m1 m2 m3 b1 b2
    have mo := jnL_m (l := l) b3
    have c1 : fS h1 (lE h1 (138 + 36 * p + 1 + 3) k) (gJo l n a1 302 (6 * p + k)) (gJo l n a1 303 (6 * p + k)) 300 (lE h1 (138 + 36 * p + 1 + 3) k) 0 = gJo l n a1 302 (6 * p + k) := (vup_k (by decide)).trans vup_s
    have c2 : fS h1 (lE h1 (138 + 36 * p + 1 + 3) k) (gJo l n a1 302 (6 * p + k)) (gJo l n a1 303 (6 * p + k)) 301 (lE h1 (138 + 36 * p + 1 + 3) k) 0 = gJo l n a1 303 (6 * p + k) := vup_s
    have e0 : vrun mX2_linesJoined 105 [(1, 138 + 36 * p + 1), (0, l), (0, n), (0, ((k + 1 : Nat) : Int) - 1), v4] [] h1 = vrun mX2_linesJoined 128 [(1, 138 + 36 * p + 1), (0, l), (0, n), (0, (k : Int)), (1, lE h1 (138 + 36 * p + 1 + 3) k)] [] (fS h1 (lE h1 (138 + 36 * p + 1 + 3) k) (gJo l n a1 302 (6 * p + k)) (gJo l n a1 303 (6 * p + k))) := by
      rw [show ((k + 1 : Nat) : Int) - 1 = (k : Int) by omega]
      refine (rX2_linesJoined_105 L.1 (fun _ => L.2.2.2.1.1) (fun z => z) (fun _ => by omega) (fun _ => k1) (fun _ => by omega) (fun _ => m1)).trans ((if_neg (by omega)).trans ?_)
      exact vret_n r1
    rw [dFk_mpF (l := l) (n := n) k]
    have a1e := aFo_1 (a := a1) (K := 6 * p + k) (l := gJo l n a1 302 (6 * p + k)) (x := gJo l n a1 303 (6 * p + k))
    have n6' : cn6 (aFo a1 (6 * p + k) (gJo l n a1 302 (6 * p + k)) (gJo l n a1 303 (6 * p + k))) := n6
    have bd' : ∀ i, 6 * p ≤ i → i < 6 * p + k → (-1000000 ≤ aFo a1 (6 * p + k) (gJo l n a1 302 (6 * p + k)) (gJo l n a1 303 (6 * p + k)) 2 302 i ∧ aFo a1 (6 * p + k) (gJo l n a1 302 (6 * p + k)) (gJo l n a1 303 (6 * p + k)) 2 302 i ≤ 1000000) ∧ (-1000000 ≤ aFo a1 (6 * p + k) (gJo l n a1 302 (6 * p + k)) (gJo l n a1 303 (6 * p + k)) 2 303 i ∧ aFo a1 (6 * p + k) (gJo l n a1 302 (6 * p + k)) (gJo l n a1 303 (6 * p + k)) 2 303 i ≤ 1000000) ∧ aFo a1 (6 * p + k) (gJo l n a1 302 (6 * p + k)) (gJo l n a1 303 (6 * p + k)) 2 302 i ≤ aFo a1 (6 * p + k) (gJo l n a1 302 (6 * p + k)) (gJo l n a1 303 (6 * p + k)) 2 303 i := fun i v w => by
      rw [aFo_n (by omega), aFo_n (by omega)]
      exact bd i v (by omega)
    have I2 := iD_lF F1 I
    have F2 := lF_tr F F1
    have e5 := rX2_linesJoined_128 (x0 := 138 + 36 * p + 1) (x1 := l) (x2 := n) (x3 := (k : Int)) (x4 := lE h1 (138 + 36 * p + 1 + 3) k) (shFold_sx X2 m1) (by omega) (by omega) (shLayers_sx X2 L.1) (fun _ => shList_sx X2 L.2.2.2.1.1)
    rw [c1, c2] at e5
    by_cases z : gJo l n a1 302 (6 * p + k) = gJo l n a1 303 (6 * p + k)
    · rw [if_pos (by rw [a1e.1, a1e.2]; exact z)]
      rw [if_neg (by omega)] at e5
      obtain ⟨h3, ee, q1, q2, q3⟩ := cW_rm (t := 2) (j := (k : Int)) W2 I2 n6' hp (by decide) (by rw [nL_f]; exact ⟨by omega, by show (k : Int) < a1 2 301 p; omega⟩)
      rw [show 140 + 36 * p + 2 = 138 + 36 * p + 1 + 3 by omega] at q1
      have F3 := rmF_lF hp (by decide) q2
      have dn : dR (aFo a1 (6 * p + k) (gJo l n a1 302 (6 * p + k)) (gJo l n a1 303 (6 * p + k))) p 2 k 2 301 p = a1 2 301 p - 1 := if_pos ⟨rfl, rfl, rfl⟩
      have dd : ∀ r i, 302 ≤ r → i < 6 * p + k → dR (aFo a1 (6 * p + k) (gJo l n a1 302 (6 * p + k)) (gJo l n a1 303 (6 * p + k))) p 2 k 2 r i = aFo a1 (6 * p + k) (gJo l n a1 302 (6 * p + k)) (gJo l n a1 303 (6 * p + k)) 2 r i := fun r i v w => by
        unfold dR
        rw [if_neg (by omega), if_neg (by omega)]
      obtain ⟨h4, t1, t2, t3, t4⟩ := C_foJoined hp hl k h3 _ (1, lE h1 (138 + 36 * p + 1 + 3) k) (by omega) q3 (dR_n6 n6' hp (by decide) (by rw [nL_f]; show 0 < a1 2 301 p; omega)) (iD_lF F3 I2) (lF_tr F2 F3) (fun i v w => by
        rw [dd _ i (by decide) w, dd _ i (by decide) w]
        exact bd' i v w)
      refine ⟨h4, e0.trans (e5.trans ((vret_v q1).trans ((rX2_linesJoined_149 (by omega) (by omega)).trans ?_))), t2, t3, t4⟩
      exact t1
    · rw [if_neg (by rw [a1e.1, a1e.2]; exact z)]
      rw [if_pos (by omega)] at e5
      obtain ⟨h4, t1, t2, t3, t4⟩ := C_foJoined hp hl k _ (aFo a1 (6 * p + k) (gJo l n a1 302 (6 * p + k)) (gJo l n a1 303 (6 * p + k))) (1, lE h1 (138 + 36 * p + 1 + 3) k) (show (k : Int) ≤ a1 2 301 p by omega) W2 n6' I2 F2 bd'
      exact ⟨h4, e0.trans (e5.trans t1), t2, t3, t4⟩
end CJN

