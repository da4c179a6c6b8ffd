/-! hide, addFold as calls -/
section HI2
variable {h h1 h2 a b : vH} {p q P Q X l x f u t j st r l0 x0 n d N E s m : Int}
theorem cN_v {v : Int} {E : Int → String} (c : cAll h1 b) (k : kR0 h h1) (I : iD h1) (n4 : h1 4 0 0 ≤ h 4 0 0 + 4) (n5 : h1 5 0 0 ≤ h 5 0 0 + 40) : cOutN h b 0 v E (some (.inl (some (0, v)), h1)) := ⟨h1, by rw [if_pos rfl], c, k, I, n4, n5⟩
noncomputable def kHd (a : vH) (p l f u : Int) : Int := if (0 ≤ p ∧ p < 4) ∧ (0 ≤ l ∧ l < a 1504 282 0) then (if (1 ≤ u ∧ u ≤ a 2 284 l) ∧ (0 ≤ f ∧ f < u) then (if a 2 293 p = 6 then 3 else 0) else 2) else 1
noncomputable def tHd (a : vH) (p l f u : Int) : vH := if kHd a p l f u = 0 then dA (th 0 a) p 0 l f u else th (kHd a p l f u) a
theorem kHd_0 : kHd a p l f u = 0 ↔ ((0 ≤ p ∧ p < 4) ∧ (0 ≤ l ∧ l < a 1504 282 0)) ∧ ((1 ≤ u ∧ u ≤ a 2 284 l) ∧ (0 ≤ f ∧ f < u)) ∧ ¬ a 2 293 p = 6 := by
  unfold kHd
  split
  · rename_i z1
    split
    · rename_i z2
      split
      · rename_i z3; exact ⟨fun w => absurd w (by decide), fun w => absurd z3 w.2.2⟩
      · rename_i z3; exact ⟨fun _ => ⟨z1, z2, z3⟩, fun _ => rfl⟩
    · rename_i z2; exact ⟨fun w => absurd w (by decide), fun w => absurd w.2.1 z2⟩
  · rename_i z1; exact ⟨fun w => absurd w (by decide), fun w => absurd w.1 z1⟩
theorem Cq_hide (c : cAll h a) (g : iG a) (I : iD h) : cOutN h (tHd a p l f u) (kHd a p l f u) (a 2 293 p + 1) e3 (vcl mX12_hide [(1, 3), (0, p), (0, l), (0, f), (0, u)] h) := by
  unfold tHd
  have bad : ∀ {X : Option (vR × vH)} (k : Int), ¬ k = 0 → kHd a p l f u = k → X = some (.inr (e3 k), vexc h) → cOutN h (if kHd a p l f u = 0 then dA (th 0 a) p 0 l f u else th (kHd a p l f u) a) (kHd a p l f u) (a 2 293 p + 1) e3 X := fun k hk ek eX => by
    rw [ek, if_neg hk]
    exact cN_of I (cO_eq eX (cO_x (cAll_th c) cR_rf hk rfl))
  by_cases z : 0 ≤ p ∧ p < 4
  · have c0 : cAll h (th 0 a) := cAll_th c
    have g0 : iG (th 0 a) := iG_tk g
    have F := (c0.2.2.1 p z.1 z.2).2.1.1
    have L := F.2.1.2.1
    have sz : h 102 (138 + 36 * p + 1 + 1) 0 = a 2 293 p := L.2.1
    have e1 := (rX12_hide_0 (x1 := p) (x2 := l) (x3 := f) (x4 := u) c.1).trans ((vret_v (C_paneOf c z)).trans (rX12_hide_5 c.1))
    by_cases y : 0 ≤ l ∧ l < a 1504 282 0
    · obtain ⟨d1, d2, d3⟩ := C_lineOf c y
      have gl := g.1.2.1
      have l80 := g.1.2.2.1 l y.1 (by omega)
      have e2 := e1.trans ((vret_v d1).trans (rX12_hide_16 d2 c.1))
      rw [show h 601 (h 2 5 l) 0 = a 2 284 l from d3] at e2
      by_cases w : 1 ≤ u ∧ u ≤ a 2 284 l
      · have e3' := e2.trans ((vret_n (C_chkRange.1 w)).trans (rX12_hide_22 (by omega) (by omega) c.1))
        by_cases v : 0 ≤ f ∧ f ≤ u - 1
        · have e4 := e3'.trans ((vret_n (C_chkRange.1 v)).trans (rX12_hide_32 F.1 L.1 c.1))
          rw [sz] at e4
          have s6 := (iG_n6 g p z.1 z.2).1
          by_cases k : a 2 293 p = 6
          · rw [if_neg (by omega)] at e4
            refine bad 3 (by decide) (by unfold kHd; rw [if_pos ⟨z, y⟩, if_pos (by omega), if_pos k]) (e4.trans (vret_x (C_chkState.2 rfl) rfl))
          · have k0 : kHd a p l f u = 0 := kHd_0.mpr ⟨⟨z, y⟩, by omega, k⟩
            rw [k0, if_pos rfl]
            rw [if_pos (by omega)] at e4
            have N0 := c.2.2.2.2.2.1
            obtain ⟨h1, a1, a2, a3, a4, a5, a6, a7, a8⟩ := C_spNew (h := h) (N := h 3 0 0) (l := l) (f := f) (u := u) rfl N0
            have hn : nL (th 0 a) p 0 < 6 := by rw [nL_s]; show a 2 293 p < 6; omega
            obtain ⟨h2, b1, b2, b3, b4, b5, b6⟩ := cW_add (t := 0) (cW_of c0) I (iG_n6 g0) z (by decide) hn rfl a2 (by omega) (Or.inr (Or.inl a3.1)) (Or.inl ⟨rfl, a3, a4, a5⟩)
            obtain ⟨A1, A2, A3, A4, A5, A6, A7⟩ := cAll_ad (t := 0) c0 g0 z (by decide) hn ⟨y.1, by omega⟩ b2 b3 b4
            rw [show 140 + 36 * p + 0 = 138 + 36 * p + 1 + 1 by omega] at b1 A6 A7
            rw [nL_s] at A7
            have s1 : shList h1 (138 + 36 * p + 1 + 1) := (a2 _ _ _ (by omega) (by omega)).trans L.1
            have sP := shPane_fA z b3 F.1
            refine cN_eq (e4.trans ((vret_n (C_chkState.1 (by decide))).trans ((rX12_hide_61 (by omega)).trans ((vret_n a1).trans ((rX12_hide_74 s1).trans ((vret_v b1).trans ((rX12_hide_77 sP).trans ((vret_n (C_fgl sP ⟨y.1, by omega⟩)).trans (rX12_hide_84 A6))))))))) ?_
            rw [show fgl (138 + 36 * p) l h2 102 (138 + 36 * p + 1 + 1) 0 = a 2 293 p + 1 from A7]
            exact cN_v A1 A2 A3 (by omega) (by omega)
        · exact bad 2 (by decide) (by unfold kHd; rw [if_pos ⟨z, y⟩, if_neg (by omega)]) (e3'.trans (vret_x (C_chkRange.2 v) rfl))
      · exact bad 2 (by decide) (by unfold kHd; rw [if_pos ⟨z, y⟩, if_neg (by omega)]) (e2.trans (vret_x (C_chkRange.2 w) rfl))
    · exact bad 1 (by decide) (if_neg (fun w => y w.2)) (e1.trans (vret_x (C_lineOfX c y) rfl))
  · exact bad 1 (by decide) (if_neg (fun w => z w.1)) ((rX12_hide_0 c.1).trans (vret_x (C_paneOfX c z) rfl))
theorem iX_hide (x : iA a) : iA (tHd a p l f u) := by
  unfold tHd
  by_cases k : kHd a p l f u = 0
  · obtain ⟨⟨z1, z2⟩, z3, z4⟩ := kHd_0.mp k
    rw [if_pos k]
    have f6 := (iG_n6 x.1 p z1.1 z1.2).1
    exact iA_dA (iA_tk x) z1 (by decide) (by rw [nL_s]; show a 2 293 p < 6; omega) (Or.inl ⟨rfl, z2, z3.2.1, z3.2.2, z3.1.2⟩)
  · rw [if_neg k]; exact iA_tk x
theorem iV_hide (V : iV n a) (hn : 0 ≤ n) : iV n (tHd a p l f u) := by
  unfold tHd
  by_cases k : kHd a p l f u = 0
  · obtain ⟨⟨z1, z2⟩, z3, z4⟩ := kHd_0.mp k
    rw [if_pos k]
    exact iV_dA (a := th 0 a) V hn (by decide) (Or.inl ⟨rfl, z2, z3.2.1, z3.2.2, z3.1.2⟩)
  · rw [if_neg k]; exact V
/-- addFold -/
noncomputable def kAf (a : vH) (p f u : Int) : Int := if (0 ≤ p ∧ p < 4) ∧ (0 ≤ f ∧ f < a 1504 282 0) ∧ (0 ≤ u ∧ u < a 1504 282 0) then (if f < u then (if a 2 301 p = 6 then 3 else 0) else 2) else 1
noncomputable def tAf (a : vH) (p f u : Int) : vH := if kAf a p f u = 0 then dA (th 0 a) p 2 f u 0 else th (kAf a p f u) a
theorem kAf_0 : kAf a p f u = 0 ↔ ((0 ≤ p ∧ p < 4) ∧ (0 ≤ f ∧ f < a 1504 282 0) ∧ (0 ≤ u ∧ u < a 1504 282 0)) ∧ f < u ∧ ¬ a 2 301 p = 6 := by
  unfold kAf
  split
  · rename_i z1
    split
    · rename_i z2
      split
      · rename_i z3; exact ⟨fun w => absurd w (by decide), fun w => absurd z3 w.2.2⟩
      · rename_i z3; exact ⟨fun _ => ⟨z1, z2, z3⟩, fun _ => rfl⟩
    · rename_i z2; exact ⟨fun w => absurd w (by decide), fun w => absurd w.2.1 z2⟩
  · rename_i z1; exact ⟨fun w => absurd w (by decide), fun w => absurd w.1 z1⟩
/-- a pane has one more open fold -/
theorem cAll_af (c : cAll h a) (g : iG a) (hp : 0 ≤ p ∧ p < 4) (hn : nL a p 2 < 6) (W : cW h2 (dA a p 2 f u 0)) (F : fA p 2 h h2) : cAll h2 (dA a p 2 f u 0) := by
  have el : dA a p 2 f u 0 1504 282 0 = a 1504 282 0 := dA_o (by decide) (by decide)
  refine cAll_of W (fun q v w => ?_)
  have e : ∀ i, 0 ≤ i → i < a 1504 282 0 → lnE a (dA a p 2 f u 0) q i := fun i _ _ => lnE_dA g hp ⟨v, w⟩ (by decide) hn (Or.inr (Or.inr ⟨rfl, rfl⟩))
  have fr : ∀ (k : Nat) (r i : Int), (r = 138 + 36 * q ∨ (138 + 36 * q + 5 ≤ r ∧ r ≤ 138 + 36 * q + 14) ∨ r = 138 + 36 * q + 26 ∨ r = 138 + 36 * q + 27) → h2 k r i = h k r i := fun k r i y => F k r i (by omega) (by omega) (by omega)
  exact ⟨cCnt_loc el e (cCnt_o fr (c.2.2.1 q v w).2.1.2.1), cLd_loc el e (cLd_o fr (c.2.2.1 q v w).2.1.2.2)⟩
theorem Cq_addFold (c : cAll h a) (g : iG a) (I : iD h) : cOutN h (tAf a p f u) (kAf a p f u) (a 2 301 p + 1) e3 (vcl mX12_addFold [(1, 3), (0, p), (0, f), (0, u)] h) := by
  unfold tAf
  have bad : ∀ {X : Option (vR × vH)} (k : Int), ¬ k = 0 → kAf a p f u = k → X = some (.inr (e3 k), vexc h) → cOutN h (if kAf a p f u = 0 then dA (th 0 a) p 2 f u 0 else th (kAf a p f u) a) (kAf a p f u) (a 2 301 p + 1) e3 X := fun k hk ek eX => by
    rw [ek, if_neg hk]
    exact cN_of I (cO_eq eX (cO_x (cAll_th c) cR_rf hk rfl))
  by_cases z : 0 ≤ p ∧ p < 4
  · have c0 : cAll h (th 0 a) := cAll_th c
    have g0 : iG (th 0 a) := iG_tk g
    have F := (c0.2.2.1 p z.1 z.2).2.1.1
    have L := F.2.1.2.2.2.1
    have sz : h 102 (138 + 36 * p + 1 + 3) 0 = a 2 301 p := L.2.1
    have e1 := (rX12_addFold_0 (x1 := p) (x2 := f) (x3 := u) c.1).trans ((vret_v (C_paneOf c z)).trans (rX12_addFold_5 c.1))
    by_cases y : 0 ≤ f ∧ f < a 1504 282 0
    · have e2 := e1.trans ((vret_n ((C_chkLine c).1 y)).trans (rX12_addFold_12 c.1))
      by_cases w : 0 ≤ u ∧ u < a 1504 282 0
      · have e3' := e2.trans ((vret_n ((C_chkLine c).1 w)).trans (rX12_addFold_17 F.1 (fun _ => L.1) c.1))
        rw [sz] at e3'
        by_cases v : f < u
        · rw [if_pos v] at e3'
          have s6 := (iG_n6 g p z.1 z.2).2.2
          by_cases k : a 2 301 p = 6
          · rw [if_neg (by omega)] at e3'
            refine bad 3 (by decide) (by unfold kAf; rw [if_pos ⟨z, y, w⟩, if_pos v, if_pos k]) (e3'.trans (vret_x (C_chkState.2 rfl) rfl))
          · have k0 : kAf a p f u = 0 := kAf_0.mpr ⟨⟨z, y, w⟩, v, k⟩
            rw [k0, if_pos rfl]
            rw [if_pos (by omega)] at e3'
            have N0 := c.2.2.2.2.2.1
            obtain ⟨h1, a1, a2, a3, a4, a5, a6, a7, a8, a9⟩ := C_foNew (h := h) (N := h 3 0 0) (f := f) (u := u) rfl N0
            have hn : nL (th 0 a) p 2 < 6 := by rw [nL_f]; show a 2 301 p < 6; omega
            obtain ⟨h2, b1, b2, b3, b4, b5, b6⟩ := cW_add (t := 2) (cW_of c0) I (iG_n6 g0) z (by decide) hn rfl a2 (by omega) (Or.inl a3) (Or.inr (Or.inr ⟨rfl, a3, a4, a5, a6⟩))
            have A1 := cAll_af c0 g0 z hn b2 b3
            have L2 := (b2.2.2.1 p z.1 z.2).2.1.2.1.2.2.2.1
            have en := dA_n (a := th 0 a) (p := p) (q := p) (l := f) (f := u) (u := 0) (t := 2) (s := 2) (by decide) (by decide)
            rw [if_pos ⟨rfl, rfl⟩, nL_f, nL_f] at en
            rw [show 140 + 36 * p + 2 = 138 + 36 * p + 1 + 3 by omega] at b1
            have s1 : shList h1 (138 + 36 * p + 1 + 3) := (a2 _ _ _ (by omega) (by omega)).trans L.1
            refine cN_eq (e3'.trans ((vret_n (C_chkState.1 (by decide))).trans ((rX12_addFold_61 (by omega)).trans ((vret_n a1).trans ((rX12_addFold_72 s1).trans ((vret_v b1).trans (rX12_addFold_75 L2.1))))))) ?_
            rw [show h2 102 (138 + 36 * p + 1 + 3) 0 = a 2 301 p + 1 from L2.2.1.trans en]
            exact cN_v A1 (fun k r i y => b3 k r i (by omega) (by omega) (by omega)) b4 (by omega) (by omega)
        · rw [if_neg v] at e3'
          exact bad 2 (by decide) (by unfold kAf; rw [if_pos ⟨z, y, w⟩, if_neg v]) e3'
      · exact bad 1 (by decide) (if_neg (fun v => w v.2.2)) (e2.trans (vret_x ((C_chkLine c).2 w) rfl))
    · exact bad 1 (by decide) (if_neg (fun w => y w.2.1)) (e1.trans (vret_x ((C_chkLine c).2 y) rfl))
  · exact bad 1 (by decide) (if_neg (fun w => z w.1)) ((rX12_addFold_0 c.1).trans (vret_x (C_paneOfX c z) rfl))
theorem iX_addFold (x : iA a) : iA (tAf a p f u) := by
  unfold tAf
  by_cases k : kAf a p f u = 0
  · obtain ⟨⟨z1, z2, z3⟩, z4, z5⟩ := kAf_0.mp k
    rw [if_pos k]
    have f6 := (iG_n6 x.1 p z1.1 z1.2).2.2
    exact iA_dA (iA_tk x) z1 (by decide) (by rw [nL_f]; show a 2 301 p < 6; omega) (Or.inr (Or.inr ⟨rfl, z2.1, z4, z3.2, rfl⟩))
  · rw [if_neg k]; exact iA_tk x
theorem iV_addFold (V : iV n a) (hn : 0 ≤ n) : iV n (tAf a p f u) := by
  unfold tAf
  by_cases k : kAf a p f u = 0
  · obtain ⟨⟨z1, z2, z3⟩, z4, z5⟩ := kAf_0.mp k
    rw [if_pos k]
    exact iV_dA (a := th 0 a) V hn (by decide) (Or.inr (Or.inr ⟨rfl, z2.1, z4, z3.2, rfl⟩))
  · rw [if_neg k]; exact V
end HI2

