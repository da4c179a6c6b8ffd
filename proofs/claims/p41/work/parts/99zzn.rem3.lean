/-! remove as a call -/
section RM3
variable {h h2 a b : vH} {p q P Q X l x s f u t j st r l0 x0 n m : Int}
theorem C_remLoop (c : cW h a) (I : iD h) (g : iG a) (V : iV n a) (hn : 0 ≤ n ∧ n ≤ 9000) (hl : 0 ≤ l ∧ l < a 1504 282 0) (hf : 0 ≤ f ∧ f < u) (hu : u ≤ a 2 284 l) : ∃ h2, vrun mX12_remove 48 [(1, 3), (0, l), (0, f), (0, u), (1, h 2 5 l), (1, 126), (0, 4), (0, 0), (9, 0)] [] (lnO h (h 2 5 l) f u (a 2 284 l)) = some (.inl (some (0, h2 601 (h 2 5 l) 0)), h2) ∧ cW h2 (tWd a l f u) ∧ eF h h2 ∧ (∀ i, h2 2 5 i = h 2 5 i) ∧ ∀ p, 0 ≤ p → p < 4 → fgd h h2 l p := by
  have N := iG_n6 g
  have nO : cn6 (tO a l f u) := tO_n6 N
  have bd := iV_bd g V hn
  have bd' : bdP (tO a l f u) := tO_bd bd
  have gl := g.1.2.1
  have l60 : l < 60 := by omega
  have ll := g.1.2.2.1 l hl.1 l60
  have rl := c.2.1.2.2.1 l hl.1 l60
  have F0 := lnO_tF (h := h) (X := h 2 5 l) (f := f) (u := u) (n := a 2 284 l) rl.2
  have W0 : cW (lnO h (h 2 5 l) f u (a 2 284 l)) (tO a l f u) := cW_tx F0 lnO_sx tO_eqTx c (cTx_O c.2.1 hl hf hu (fun i v w => (g.1.2.2.1 i v w).2))
  have loop : ∀ (k : Nat) (q : Int) (h1 a1 : vH) (v8 : vv), q + k = 4 → 0 ≤ q → rWe l f u (tO a l f u) q a1 → cW h1 a1 → iD h1 → eF h h1 → (∀ i, h1 2 5 i = h 2 5 i) → (∀ p, 0 ≤ p → p < q → fgd h h1 l p) → (∀ p, q ≤ p → p < 4 → ∀ i, h1 2 (138 + 36 * p + 26) i = h 2 (138 + 36 * p + 26) i) → ∃ h2, vrun mX12_remove 48 [(1, 3), (0, l), (0, f), (0, u), (1, h 2 5 l), (1, 126), (0, 4), (0, q), v8] [] h1 = some (.inl (some (0, h2 601 (h 2 5 l) 0)), h2) ∧ cW h2 (tWd a l f u) ∧ eF h h2 ∧ (∀ i, h2 2 5 i = h 2 5 i) ∧ ∀ p, 0 ≤ p → p < 4 → fgd h h2 l p := by
    intro k
    induction k with
    | zero =>
      intro q h1 a1 v8 hq h0 R W I1 E L5 D _
      have eq : q = 4 := by omega
      subst eq
      have sl : shLine h1 (h 2 5 l) := by
        rw [← L5]
        exact (W.2.1.2.2.1 l hl.1 l60).1
      exact ⟨h1, (rX12_remove_48 sl (fun z => absurd (by decide) z) (fun z => absurd (by decide) z) (fun z => absurd (by decide) z) (fun z => absurd (by decide) z)).trans (if_pos (by decide)), cW_u (rWe_u nO R) W, E, L5, D⟩
    | succ k ih =>
      intro q h1 a1 v8 hq h0 R W I1 E L5 D K
      have hq4 : 0 ≤ q ∧ q < 4 := ⟨h0, by omega⟩
      obtain ⟨d1, d2, d3⟩ := W.2.2.1 q hq4.1 hq4.2
      have s5 := W.1.2.2.2.2
      have sl : shLine h1 (h 2 5 l) := by
        rw [← L5]
        exact (W.2.1.2.2.1 l hl.1 l60).1
      obtain ⟨s1, s2, s3⟩ := R.2.2 q (Int.le_refl _) hq4.2
      have n6x := rWe_n6 nO ⟨h0, by omega⟩ R
      have bq : bdQ a1 q := by
        refine ⟨fun r i hr v w => ?_, fun r hr => ?_⟩
        · have e : a1 2 r i = tO a l f u 2 r i := by
            unfold rgL at hr
            rcases hr with e | e | e
            · exact s1 r i (Or.inr ⟨e.1, e.2, v, w⟩)
            · exact s2 r i e v w
            · exact R.1 2 r i (by unfold rgF at e; unfold rgV rgC; omega)
          rw [e]
          exact bd'.1 r i hr (by omega) (by omega)
        · rw [s3 r hr]
          exact bd'.2 r q hr hq4.1 hq4.2
      have mo : ∀ i, 6 * q ≤ i → i < 6 * q + a1 2 293 q → a1 2 295 i ≤ a1 2 296 i := fun i v w => by
        have ec : a1 2 293 q = tO a l f u 2 293 q := s1 _ _ (Or.inl ⟨rfl, rfl⟩)
        have ec2 : tO a l f u 2 293 q = a 2 293 q := tO_o (by decide)
        have k6 := (N q hq4.1 hq4.2).1
        rw [s1 295 i (Or.inr ⟨by decide, by decide, v, by omega⟩), s1 296 i (Or.inr ⟨by decide, by decide, v, by omega⟩), tO_o (r := 295) (by decide), tO_o (r := 296) (by decide)]
        have := (g.2 q hq4.1 hq4.2).2.1 i v (by omega)
        omega
      obtain ⟨h3, a1', a2, a3, a4, a5, a6, a7⟩ := C_panWent (l := l) (f := f) (u := u) W I1 n6x bq mo hq4 ⟨hl.1, l60⟩ hf (by omega)
      obtain ⟨h4, b1, b2, b3, b4, b5⟩ := ih (q + 1) h3 _ (1, 138 + 36 * q) (by omega) (by omega) (rWe_s hq4 nO n6x R) a4 a3 (eF_tr E (fgF_eF hq4 a2)) (fun i => (a2 _ _ _ (by omega)).trans (L5 i)) (fun p v w => by
        by_cases z : p = q
        · subst z
          refine ⟨a5, a6, fun i => ?_⟩
          rw [a7, K p (by omega) (by omega)]
        · obtain ⟨e1, e2, e3⟩ := D p v (by omega)
          refine ⟨(a2 _ _ _ (by omega)).trans e1, (a2 _ _ _ (by omega)).trans e2, fun i => ?_⟩
          rw [a2 2 _ _ (by omega), e3]) (fun p v w i => by
        rw [a2 2 _ _ (by omega)]
        exact K p (by omega) w i)
      refine ⟨h4, ?_, b2, b3, b4, b5⟩
      refine (rX12_remove_48 sl (fun _ => s5.1) (fun _ => h0) (fun _ => by have := s5.2.1; omega) (fun _ => by rw [d1]; exact d2.1)).trans ((if_neg (by omega)).trans ?_)
      rw [d1]
      exact (vret_n a1').trans ((rX12_remove_70 (by omega) (by omega)).trans b1)
  refine loop 4 0 _ _ (9, 0) (by decide) (by decide) rWe_0 W0 ?_ (tF_eF F0) (fun i => lnO_2 (by omega)) (fun p v w => by omega) (fun p v w i => F0 _ _ _ (by omega))
  exact iD_eF (tF_eF F0) I
noncomputable def kRm (a : vH) (l f u : Int) : Int := if 0 ≤ l ∧ l < a 1504 282 0 then (if (1 ≤ u ∧ u ≤ a 2 284 l) ∧ (0 ≤ f ∧ f < u) then 0 else 2) else 1
noncomputable def tRm (a : vH) (l f u : Int) : vH := if kRm a l f u = 0 then tWd (th 0 a) l f u else th (kRm a l f u) a
theorem kRm_0 : kRm a l f u = 0 ↔ (0 ≤ l ∧ l < a 1504 282 0) ∧ (1 ≤ u ∧ u ≤ a 2 284 l) ∧ (0 ≤ f ∧ f < u) := by
  unfold kRm
  split
  · rename_i z1
    split
    · rename_i z2; exact ⟨fun _ => ⟨z1, z2⟩, fun _ => rfl⟩
    · rename_i z2; exact ⟨fun w => absurd w (by decide), fun w => absurd w.2 z2⟩
  · rename_i z1; exact ⟨fun w => absurd w (by decide), fun w => absurd w.1 z1⟩
theorem Cq_remove (c : cAll h a) (g : iG a) (V : iV n a) (hn : 0 ≤ n ∧ n ≤ 9000) (I : iD h) : cOut h (tRm a l f u) (kRm a l f u) (a 2 284 l - (u - f)) e3 (vcl mX12_remove [(1, 3), (0, l), (0, f), (0, u)] h) := by
  unfold tRm
  have bad : ∀ {X : Option (vR × vH)} (k : Int), ¬ k = 0 → kRm a l f u = k → X = some (.inr (e3 k), vexc h) → cOut h (if kRm a l f u = 0 then tWd (th 0 a) l f u else th (kRm a l f u) a) (kRm a l f u) (a 2 284 l - (u - f)) e3 X := fun k hk ek eX => by
    rw [ek, if_neg hk]
    exact cO_eq eX (cO_x (cAll_th c) cR_rf hk rfl)
  by_cases z : 0 ≤ l ∧ l < a 1504 282 0
  · obtain ⟨d1, d2, d3⟩ := C_lineOf c z
    have gl := g.1.2.1
    have l80 := g.1.2.2.1 l z.1 (by omega)
    have e1 := (rX12_remove_0 (x1 := l) (x2 := f) (x3 := u) c.1).trans ((vret_v d1).trans (rX12_remove_5 d2 c.1))
    rw [show h 601 (h 2 5 l) 0 = a 2 284 l from d3] at e1
    by_cases y : 1 ≤ u ∧ u ≤ a 2 284 l
    · have e2 := e1.trans ((vret_n (C_chkRange.1 y)).trans (rX12_remove_18 (by omega) (by omega) c.1))
      by_cases w : 0 ≤ f ∧ f ≤ u - 1
      · have hf : 0 ≤ f ∧ f < u := by omega
        have k0 : kRm a l f u = 0 := kRm_0.mpr ⟨z, y, hf⟩
        rw [k0, if_pos rfl]
        have c0 : cAll h (th 0 a) := cAll_th c
        have g0 : iG (th 0 a) := iG_tk g
        have V0 : iV n (th 0 a) := V
        have z0 : 0 ≤ l ∧ l < th 0 a 1504 282 0 := z
        have y0 : u ≤ th 0 a 2 284 l := y.2
        have e3' := e2.trans ((vret_n (C_chkRange.1 w)).trans ((rX12_remove_27 d2).trans (vret_n (C_lnOut d2 d3 hf y.2 l80.2))))
        obtain ⟨h2, a1, a2, a3, a4, a5⟩ := C_remLoop (cW_of c0) I g0 V0 hn z0 hf y0
        have el : tWd (th 0 a) l f u 1504 282 0 = th 0 a 1504 282 0 := wd_o (iG_n6 g0) (by decide)
        have A := cAll_fgd a2 c0 el a5 (fun p i v w s1 t1 n1 => lnE_wd g0 ⟨v, w⟩ z0 hf y0 s1 t1 n1)
        obtain ⟨f1, f2, f3⟩ := C_lineOf A (l := l) (by rw [el]; exact z0)
        rw [a4] at f3
        have f4 : h2 601 (h 2 5 l) 0 = a 2 284 l - (u - f) := by
          refine Eq.trans f3 ?_
          have := wd_l (l := l) (f := f) (u := u) (iG_n6 g0) (i := l)
          rw [if_pos rfl] at this
          exact this
        have r0 := c.2.1.2.2.1 l z.1 (by omega)
        have sP : shPL (lnO h (h 2 5 l) f u (a 2 284 l)) := shPL_sx lnO_sx c.1
        have a1' : vrun mX12_remove 48 [(1, 3), (0, l), (0, f), (0, u), (1, h 2 5 l), (1, 126), (0, 4), (0, 0), (9, 0)] [] (lnO h (h 2 5 l) f u (a 2 284 l)) = some (.inl (some (0, h2 601 (h 2 5 l) 0)), h2) := a1
        refine cO_eq (e3'.trans ((rX12_remove_34 sP).trans a1')) ?_
        rw [f4]
        exact cO_v A (eF_kR a3)
      · exact bad 2 (by decide) (by unfold kRm; rw [if_pos z, if_neg (by omega)]) (e2.trans (vret_x (C_chkRange.2 w) rfl))
    · exact bad 2 (by decide) (by unfold kRm; rw [if_pos z, if_neg (by omega)]) (e1.trans (vret_x (C_chkRange.2 y) rfl))
  · exact bad 1 (by decide) (if_neg z) ((rX12_remove_0 c.1).trans (vret_x (C_lineOfX c z) rfl))
theorem iX_remove (x : iA a) : iA (tRm a l f u) := by
  unfold tRm
  by_cases k : kRm a l f u = 0
  · obtain ⟨z1, z2, z3⟩ := kRm_0.mp k
    rw [if_pos k]
    have g0 : iG (th 0 a) := iG_tk x.1
    exact ⟨iG_wd g0 z1 z3 z2.2, iH_wd g0 (iH_th x.2.1) z1 z3 z2.2, iM_wd (iG_n6 g0) (iM_th x.2.2.1), iC_wd (a := th 0 a) (iG_n6 g0) x.2.2.2⟩
  · rw [if_neg k]; exact iA_tk x
theorem iV_remove (x : iA a) (V : iV n a) (hn : 0 ≤ n) : iV n (tRm a l f u) := by
  unfold tRm
  by_cases k : kRm a l f u = 0
  · obtain ⟨z1, z2, z3⟩ := kRm_0.mp k
    rw [if_pos k]
    exact iV_wd (a := th 0 a) (iG_tk x.1) V hn z3 z2.2
  · rw [if_neg k]; exact V
/-- insert, the invariants -/
theorem iX_insert (x0 : iA a) : iA (tIn a l x s) := by
  unfold tIn
  by_cases k : kIn a l x s = 0
  · obtain ⟨z1, ⟨z2, z3⟩, z4⟩ := kIn_0.mp k
    rw [if_pos k]
    have g0 : iG (th 0 a) := iG_tk x0.1
    have gl := x0.1.1.2.1
    have l80 := x0.1.1.2.2.1 l z1.1 (by omega)
    have v0 : th 0 a 2 284 l < 80 := show a 2 284 l < 80 by have : ¬ a 2 284 l = 80 := z4; omega
    exact ⟨iG_cm g0 z1 z2 v0, iH_cm g0 (iH_th x0.2.1) (sgOk_in z3) z1 z2 v0, iM_cm (iM_th x0.2.2.1), iC_cm (a := th 0 a) x0.2.2.2⟩
  · rw [if_neg k]; exact iA_tk x0
theorem iV_insert (V : iV n a) (hn : 0 ≤ n) : iV n (tIn a l x s) := by
  unfold tIn
  by_cases k : kIn a l x s = 0
  · obtain ⟨z1, ⟨z2, z3⟩, z4⟩ := kIn_0.mp k
    rw [if_pos k]
    exact iV_cm (a := th 0 a) V z2 hn
  · rw [if_neg k]; exact V
end RM3

