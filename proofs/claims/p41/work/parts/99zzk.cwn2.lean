/-! signs go: panes of the class -/
section CW3
variable {h h2 a b : vH} {p q P Q X l x s f u t j st r l0 x0 n : Int}
theorem C_viWent (hp : 0 ≤ p ∧ p < 4) (hf : 0 ≤ f ∧ f < u) (hu : u ≤ 80) {a1 : vH} (ev : ∀ r i, rgV r → a1 2 r i = a 2 r i) (en : a1 2 297 p = a 2 297 p) (n6 : cn6 a1) (bd : bdQ a p) : ∀ (k : Nat) (j : Int) (h1 : vH) (v5 : vv), j + k = a 2 297 p → 0 ≤ j → lF h h1 → iD h1 → cW h1 (mp a1 rgV (6 * p) (6 * p + j) (gWe l f u a)) → ∃ h2, vrun mX2_signsWent 90 [(1, 138 + 36 * p + 1), (0, l), (0, f), (0, u), (0, j), v5] [] h1 = some (.inl none, h2) ∧ lF h h2 ∧ iD h2 ∧ cW h2 (mp a1 rgV (6 * p) (6 * p + a 2 297 p) (gWe l f u a)) := by
  have p6 := (n6 p hp.1 hp.2).2.1
  intro k
  induction k with
  | zero =>
    intro j h1 v5 hj h0 F I W
    have ej : j = a 2 297 p := by omega
    have L := (W.2.2.1 p hp.1 hp.2).2.1.2.1
    have es : h1 102 (138 + 36 * p + 1 + 2) 0 = a 2 297 p := L.2.2.1.2.1.trans ((mp_r (by unfold rgV; decide)).trans en)
    refine ⟨h1, (rX2_signsWent_90 L.1 L.2.2.1.1 (fun z => absurd (by omega) z) (fun z => absurd (by omega) z) (fun z => absurd (by omega) z) (fun z => absurd (by omega) z) (fun z => absurd (by omega) z)).trans (if_pos (by omega)), F, I, ?_⟩
    rw [ej] at W
    exact W
  | succ k ih =>
    intro j h1 v5 hj h0 F I W
    have m6 : cn6 (mp a1 rgV (6 * p) (6 * p + j) (gWe l f u a)) := cn6_of (fun q _ _ => ⟨mp_r (by unfold rgV; decide), mp_r (by unfold rgV; decide), mp_r (by unfold rgV; decide)⟩) n6
    have L := (W.2.2.1 p hp.1 hp.2).2.1.2.1
    have en2 : mp a1 rgV (6 * p) (6 * p + j) (gWe l f u a) 2 297 p = a 2 297 p := (mp_r (by unfold rgV; decide)).trans en
    have es : h1 102 (138 + 36 * p + 1 + 2) 0 = a 2 297 p := L.2.2.1.2.1.trans en2
    obtain ⟨k1, k2⟩ := L.2.2.1.2.2 (by omega)
    obtain ⟨m1, m2, m3, m4⟩ := L.2.2.2.2.2.1 j h0 (by omega)
    have rd : ∀ r, rgV r → mp a1 rgV (6 * p) (6 * p + j) (gWe l f u a) 2 r (6 * p + j) = a 2 r (6 * p + j) := fun r hr => (mp_i (by omega)).trans (ev r _ hr)
    rw [rd _ (by unfold rgV; decide), rd _ (by unfold rgV; decide)] at m2
    have E3 := cW_eV W hp (j := j) ⟨h0, by omega⟩
    have b1 := bd.1 299 (6 * p + j) (Or.inr (Or.inl (by unfold rgV; decide))) (by omega) (by omega)
    have W2 := cW_vi (l := a 2 298 (6 * p + j)) (x := weX l f u (a 2 298 (6 * p + j)) (a 2 299 (6 * p + j))) W m6 hp (j := j) ⟨h0, by omega⟩
    have W3 : aVi (mp a1 rgV (6 * p) (6 * p + j) (gWe l f u a)) (6 * p + j) (a 2 298 (6 * p + j)) (weX l f u (a 2 298 (6 * p + j)) (a 2 299 (6 * p + j))) = mp a1 rgV (6 * p) (6 * p + (j + 1)) (gWe l f u a) := by
      rw [← Int.add_assoc]
      exact aVi_mp (by omega)
    rw [W3] at W2
    have FF : lF h1 (pS h1 (lE h1 (138 + 36 * p + 1 + 2) j + 1) (a 2 298 (6 * p + j)) (weX l f u (a 2 298 (6 * p + j)) (a 2 299 (6 * p + j)))) := lF_pS (by omega)
    obtain ⟨h3, r1, r2, r3⟩ := ih (j + 1) _ v5 (by omega) (by omega) (lF_tr F FF) (iD_lF FF I) W2
    refine ⟨h3, ?_, r2, r3⟩
    refine (rX2_signsWent_90 L.1 L.2.2.1.1 (fun _ => by omega) (fun _ => k1) (fun _ => h0) (fun _ => by omega) (fun _ => m1)).trans ((if_neg (by omega)).trans ?_)
    refine (vret_n (C_plWent (r := lE h1 (138 + 36 * p + 1 + 2) j + 1) m1.2.2 m2 b1 hf hu)).trans ?_
    exact (rX2_signsWent_123 (by omega) (by omega)).trans r1
theorem C_panWent (c : cW h a) (I : iD h) (n6 : cn6 a) (bd : bdQ a p) (mo : ∀ i, 6 * p ≤ i → i < 6 * p + a 2 293 p → a 2 295 i ≤ a 2 296 i) (hp : 0 ≤ p ∧ p < 4) (hl : 0 ≤ l ∧ l < 60) (hf : 0 ≤ f ∧ f < u) (hu : u ≤ 80) : ∃ h2, vcl mX5_signsWent [(1, 138 + 36 * p), (0, l), (0, f), (0, u)] h = some (.inl none, h2) ∧ fgF p h h2 ∧ iD h2 ∧ cW h2 (oD (gWe l f u a) a p) ∧ h2 714 (138 + 36 * p) 0 = 0 ∧ h2 715 (138 + 36 * p) 0 = -1 ∧ ∀ i, h2 2 (138 + 36 * p + 26) i = if i = l then -1 else h 2 (138 + 36 * p + 26) i := by
  have p6 := n6 p hp.1 hp.2
  have L0 := (c.2.2.1 p hp.1 hp.2).2.1.2.1
  have en0 : ((a 2 293 p).toNat : Int) = a 2 293 p := by omega
  obtain ⟨h1, v6, a1, a2, a3, a4⟩ := C_spWent (h := h) (l := l) hp hf hu (a 2 293 p).toNat h a (9, 0) (by omega) c n6 I lF_rf (fun i v w => ⟨bd.1 _ i (Or.inl (by unfold rgS; decide)) v (by omega), bd.1 _ i (Or.inl (by unfold rgS; decide)) v (by omega), mo i v (by omega)⟩)
  rw [en0] at a1 a4
  have mr : ∀ r i, ¬ rgS r → mp a rgS (6 * p) (6 * p + a 2 293 p) (gWe l f u a) 2 r i = a 2 r i := fun r i hr => mp_r hr
  have ms : mp a rgS (6 * p) (6 * p + a 2 293 p) (gWe l f u a) 2 293 p = a 2 293 p := mr _ _ (by unfold rgS; decide)
  have dn : ∀ r i, ¬ (293 ≤ r ∧ r ≤ 296) → dEk p (a 2 293 p).toNat (mp a rgS (6 * p) (6 * p + a 2 293 p) (gWe l f u a)) 2 r i = a 2 r i := fun r i hr => (dEk_o hp (by omega) _ _ (by omega) (by omega)).trans (mr r i (by unfold rgS; omega))
  have n6b : cn6 (dEk p (a 2 293 p).toNat (mp a rgS (6 * p) (6 * p + a 2 293 p) (gWe l f u a))) := by
    have W := a4
    intro q u v
    have k := n6 q u v
    rw [dn 297 q (by decide), dn 301 q (by decide)]
    refine ⟨?_, k.2⟩
    -- the count of spans of a pane is between 0 and 6
    have cs : ∀ (k : Nat) (b : vH), 0 ≤ b 2 293 q ∧ b 2 293 q ≤ 6 → (k : Int) ≤ b 2 293 p → 0 ≤ dEk p k b 2 293 q ∧ dEk p k b 2 293 q ≤ 6 := by
      intro k
      induction k with
      | zero => intro b hb _; exact hb
      | succ k ih =>
        intro b hb hk
        unfold dEk
        split
        · have e : dR b p 0 k 2 293 q = if q = p then b 2 293 p - 1 else b 2 293 q := by
            by_cases z : q = p
            · rw [if_pos z, z]; exact if_pos ⟨rfl, rfl, rfl⟩
            · rw [if_neg z]
              unfold dR
              rw [if_neg (fun w => z w.2.2), if_neg (by omega)]
          have e2 : dR b p 0 k 2 293 p = b 2 293 p - 1 := if_pos ⟨rfl, rfl, rfl⟩
          refine ih _ ?_ (by omega)
          rw [e]
          by_cases z : q = p
          · rw [if_pos z]; rw [z] at hb; omega
          · rw [if_neg z]; exact hb
        · exact ih b hb (by omega)
    refine cs _ _ ?_ (by omega)
    rw [mr _ _ (by unfold rgS; decide)]
    exact k.1
  have Wv : cW h1 (mp (dEk p (a 2 293 p).toNat (mp a rgS (6 * p) (6 * p + a 2 293 p) (gWe l f u a))) rgV (6 * p) (6 * p + 0) (gWe l f u a)) := by
    rw [show 6 * p + 0 = 6 * p by omega, mp_0]
    exact a4
  obtain ⟨h3, b1, b2, b3, b4⟩ := C_viWent (h := h) (l := l) hp hf hu (fun r i hr => dn r i (by unfold rgV at hr; omega)) (dn _ _ (by decide)) n6b bd (a 2 297 p).toNat 0 h1 v6 (by omega) (by decide) a2 a3 Wv
  have P0 := (c.2.2.1 p hp.1 hp.2).2.1.1
  have lay : vcl mX2_signsWent [(1, 138 + 36 * p + 1), (0, l), (0, f), (0, u)] h = some (.inl none, h3) := by
    have es : h 102 (138 + 36 * p + 1 + 1) 0 = a 2 293 p := L0.2.1.2.1
    refine (show _ = _ from rX2_signsWent_0 L0.1 L0.2.1.1 (by omega) (by omega)).trans ?_
    rw [es]
    exact a1.trans b1
  have C1 := (b4.2.2.1 p hp.1 hp.2).2.1.2.2.1
  have rd : ∀ r, rgC r → mp (dEk p (a 2 293 p).toNat (mp a rgS (6 * p) (6 * p + a 2 293 p) (gWe l f u a))) rgV (6 * p) (6 * p + a 2 297 p) (gWe l f u a) 2 r p = a 2 r p := fun r hr => (mp_r (by unfold rgC at hr; unfold rgV; omega)).trans (dn r p (by unfold rgC at hr; omega))
  rw [rd _ (by unfold rgC; decide), rd _ (by unfold rgC; decide)] at C1
  have P1 := shPane_sx (lF_sx b2) P0
  have B1 := bd.2 306 (by unfold rgC; decide)
  have W1 := cW_cu (l := a 2 305 p) (x := weX l f u (a 2 305 p) (a 2 306 p)) b4 hp
  have T1 := (W1.2.2.1 p hp.1 hp.2).2.1.2.2.2.1
  have F1 : lF h (pS h3 (138 + 36 * p + 23) (a 2 305 p) (weX l f u (a 2 305 p) (a 2 306 p))) := lF_tr b2 (lF_pS (by omega))
  have P2 := shPane_sx (lF_sx F1) P0
  have rt : ∀ r, rgC r → ¬ (r = 305 ∨ r = 306) → aCu (mp (dEk p (a 2 293 p).toNat (mp a rgS (6 * p) (6 * p + a 2 293 p) (gWe l f u a))) rgV (6 * p) (6 * p + a 2 297 p) (gWe l f u a)) p (a 2 305 p) (weX l f u (a 2 305 p) (a 2 306 p)) 2 r p = a 2 r p := fun r hr n => (vup_r (by omega)).trans ((vup_r (by omega)).trans (rd r hr))
  rw [rt _ (by unfold rgC; decide) (by decide), rt _ (by unfold rgC; decide) (by decide)] at T1
  have B2 := bd.2 309 (by unfold rgC; decide)
  have W2 := cW_tp (l := a 2 308 p) (x := weX l f u (a 2 308 p) (a 2 309 p)) W1 hp
  have F2 : lF h (pS (pS h3 (138 + 36 * p + 23) (a 2 305 p) (weX l f u (a 2 305 p) (a 2 306 p))) (138 + 36 * p + 24) (a 2 308 p) (weX l f u (a 2 308 p) (a 2 309 p))) := lF_tr F1 (lF_pS (by omega))
  have P3 := shPane_sx (lF_sx F2) P0
  have I2 := iD_lF F2 I
  obtain ⟨r1, r2, r3⟩ := fgl_r (P := 138 + 36 * p) (l := l) (h := pS (pS h3 (138 + 36 * p + 23) (a 2 305 p) (weX l f u (a 2 305 p) (a 2 306 p))) (138 + 36 * p + 24) (a 2 308 p) (weX l f u (a 2 308 p) (a 2 309 p)))
  refine ⟨fgl (138 + 36 * p) l (pS (pS h3 (138 + 36 * p + 23) (a 2 305 p) (weX l f u (a 2 305 p) (a 2 306 p))) (138 + 36 * p + 24) (a 2 308 p) (weX l f u (a 2 308 p) (a 2 309 p))), ?_, ?_, ?_, cW_qF hp (fgl_qF (P := 138 + 36 * p) (l := l)) W2, r1, r2, fun i => ?_⟩
  · refine (show _ = _ from rX5_signsWent_0 P0).trans ((vret_n lay).trans ((rX5_signsWent_10 P1).trans ?_))
    refine (vret_n (C_plWent (r := 138 + 36 * p + 23) (shPane_pl P1).1 C1 B1 hf hu)).trans ((rX5_signsWent_20 P2).trans ?_)
    refine (vret_n (C_plWent (r := 138 + 36 * p + 24) (shPane_pl P2).2 T1 B2 hf hu)).trans ((rX5_signsWent_30 P3).trans ?_)
    exact (vret_n (C_fgl P3 hl)).trans rX5_signsWent_35
  · intro k r i e
    unfold fgl vup
    rw [if_neg (by omega), if_neg (by omega), if_neg (by omega)]
    exact F2 k r i (by omega)
  · refine iD_eF (h := pS (pS h3 (138 + 36 * p + 23) (a 2 305 p) (weX l f u (a 2 305 p) (a 2 306 p))) (138 + 36 * p + 24) (a 2 308 p) (weX l f u (a 2 308 p) (a 2 309 p))) (fun k r i e => ?_) I2
    unfold fgl vup
    rw [if_neg (by omega), if_neg (by omega), if_neg (by omega)]
  · rw [r3, F2 2 _ _ (by omega)]
/-- the spans of a pane are the same -/
def zE (p : Int) (a b : vH) : Prop := b 2 293 p = a 2 293 p ∧ ∀ r i, 294 ≤ r → r ≤ 296 → 6 * p ≤ i → i < 6 * p + a 2 293 p → b 2 r i = a 2 r i
theorem zE_dR (j0 : 0 ≤ j) (z : zE p a b) : zE p (dR a p 0 j) (dR b p 0 j) := by
  have n1 : dR a p 0 j 2 293 p = a 2 293 p - 1 := if_pos ⟨rfl, rfl, rfl⟩
  have n2 : dR b p 0 j 2 293 p = b 2 293 p - 1 := if_pos ⟨rfl, rfl, rfl⟩
  refine ⟨by rw [n1, n2, z.1], fun r i u v w y => ?_⟩
  rw [n1] at y
  have q1 : a 2 (293 + 4 * 0) p = a 2 293 p := rfl
  have q2 : b 2 (293 + 4 * 0) p = b 2 293 p := rfl
  have z1 := z.1
  unfold dR
  by_cases c : 6 * p + j ≤ i
  · rw [if_neg (by omega), if_pos (by omega), if_neg (by omega), if_pos (by omega)]
    exact z.2 r (i + 1) u v (by omega) (by omega)
  · rw [if_neg (by omega), if_neg (by omega), if_neg (by omega), if_neg (by omega)]
    exact z.2 r i u v w (by omega)
theorem zE_dEk : ∀ (k : Nat) (a b : vH), (k : Int) ≤ a 2 293 p → zE p a b → zE p (dEk p k a) (dEk p k b)
  | 0, _, _, _, z => z
  | k + 1, a, b, hk, z => by
    have e1 := z.2 295 (6 * p + k) (by decide) (by decide) (by omega) (by omega)
    have e2 := z.2 296 (6 * p + k) (by decide) (by decide) (by omega) (by omega)
    unfold dEk
    rw [e1, e2]
    by_cases c : a 2 295 (6 * p + k) = a 2 296 (6 * p + k)
    · rw [if_pos c, if_pos c]
      have n1 : dR a p 0 k 2 293 p = a 2 293 p - 1 := if_pos ⟨rfl, rfl, rfl⟩
      exact zE_dEk k _ _ (by omega) (zE_dR (by omega) z)
    · rw [if_neg c, if_neg c]
      exact zE_dEk k _ _ (by omega) z
theorem zE_tr {c : vH} (x : zE p a b) (y : zE p b c) : zE p a c := ⟨y.1.trans x.1, fun r i u v w z => (y.2 r i u v w (by rw [x.1]; exact z)).trans (x.2 r i u v w z)⟩
theorem zE_sy (x : zE p a b) : zE p b a := ⟨x.1.symm, fun r i u v w z => (x.2 r i u v w (by rw [← x.1]; exact z)).symm⟩
theorem zE_of (e : ∀ r i, r = 293 ∧ i = p ∨ 294 ≤ r ∧ r ≤ 296 ∧ 6 * p ≤ i ∧ i < 6 * p + 6 → b 2 r i = a 2 r i) (n6 : a 2 293 p ≤ 6) : zE p a b := ⟨e _ _ (Or.inl ⟨rfl, rfl⟩), fun r i u v w z => e r i (Or.inr ⟨u, v, w, by omega⟩)⟩
end CW3

