/-! addVirtual as a call -/
section AVI
variable {h h1 h2 a b : vH} {p l f u n : Int}
noncomputable def kAv (a : vH) (p l f u : Int) : Int := if (0 ≤ p ∧ p < 4) ∧ (0 ≤ l ∧ l < a 1504 282 0) then @ite _ ((0 ≤ f ∧ f ≤ a 2 284 l) ∧ isVt u) (Classical.propDecidable _) (if a 2 297 p = 6 then 3 else 0) 2 else 1
noncomputable def tAv (a : vH) (p l f u : Int) : vH := if kAv a p l f u = 0 then dA (th 0 a) p 1 l f u else th (kAv a p l f u) a
theorem kAv_0 : kAv a p l f u = 0 ↔ ((0 ≤ p ∧ p < 4) ∧ (0 ≤ l ∧ l < a 1504 282 0)) ∧ ((0 ≤ f ∧ f ≤ a 2 284 l) ∧ isVt u) ∧ ¬ a 2 297 p = 6 := by
  unfold kAv
  by_cases z1 : (0 ≤ p ∧ p < 4) ∧ (0 ≤ l ∧ l < a 1504 282 0)
  · by_cases z2 : (0 ≤ f ∧ f ≤ a 2 284 l) ∧ isVt u
    · by_cases z3 : a 2 297 p = 6
      · rw [if_pos z1, if_pos z2, if_pos z3]; exact ⟨fun w => absurd w (by decide), fun w => absurd z3 w.2.2⟩
      · rw [if_pos z1, if_pos z2, if_neg z3]; exact ⟨fun _ => ⟨z1, z2, z3⟩, fun _ => rfl⟩
    · rw [if_pos z1, if_neg z2]; exact ⟨fun w => absurd w (by decide), fun w => absurd w.2.1 z2⟩
  · rw [if_neg z1]; exact ⟨fun w => absurd w (by decide), fun w => absurd w.1 z1⟩
theorem Cq_addVirtual (c : cAll h a) (g : iG a) (I : iD h) (hz : -9223372036854775808 ≤ u ∧ u < 9223372036854775808) : cOutN h (tAv a p l f u) (kAv a p l f u) (a 2 297 p + 1) e3 (vcl mX12_addVirtual [(1, 3), (0, p), (0, l), (0, f), (2, u)] h) := by
  unfold tAv
  have bad : ∀ {X : Option (vR × vH)} (k : Int), ¬ k = 0 → kAv a p l f u = k → X = some (.inr (e3 k), vexc h) → cOutN h (if kAv a p l f u = 0 then dA (th 0 a) p 1 l f u else th (kAv a p l f u) a) (kAv a p l f u) (a 2 297 p + 1) e3 X := fun k hk ek eX => by
    rw [ek, if_neg hk]
    exact cN_of I (cO_eq eX (cO_x (cAll_th c) cR_rf hk rfl))
  by_cases z : 0 ≤ p ∧ p < 4
  · have c0 : cAll h (th 0 a) := cAll_th c
    have g0 : iG (th 0 a) := iG_tk g
    have F := (c0.2.2.1 p z.1 z.2).2.1.1
    have L := F.2.1.2.2.1
    have sz : h 102 (138 + 36 * p + 1 + 2) 0 = a 2 297 p := L.2.1
    have e1 := (rX12_addVirtual_0 (x1 := p) (x2 := l) (x3 := f) (x4 := u) c.1).trans ((vret_v (C_paneOf c z)).trans (rX12_addVirtual_5 c.1))
    by_cases y : 0 ≤ l ∧ l < a 1504 282 0
    · obtain ⟨d1, d2, d3⟩ := C_lineOf c y
      have gl := g.1.2.1
      have e2 := e1.trans ((vret_v d1).trans (rX12_addVirtual_15 d2 c.1))
      rw [show h 601 (h 2 5 l) 0 = a 2 284 l from d3] at e2
      by_cases w : 0 ≤ f ∧ f ≤ a 2 284 l
      · have e3' := e2.trans ((vret_n (C_chkRange.1 w)).trans (rX12_addVirtual_21.trans ((vret_v (C_isText hz)).trans (rX12_addVirtual_26 F.1 (fun _ => L.1) c.1))))
        by_cases v : isVt u
        · rw [b2i_t v, if_neg (by decide), sz] at e3'
          have s6 := (iG_n6 g p z.1 z.2).2.1
          by_cases k : a 2 297 p = 6
          · rw [if_neg (by omega)] at e3'
            refine bad 3 (by decide) (by unfold kAv; rw [if_pos ⟨z, y⟩, if_pos ⟨w, v⟩, if_pos k]) (e3'.trans (vret_x (C_chkState.2 rfl) rfl))
          · have k0 : kAv a p l f u = 0 := kAv_0.mpr ⟨⟨z, y⟩, ⟨w, v⟩, k⟩
            rw [k0, if_pos rfl]
            rw [if_pos (by omega)] at e3'
            have N0 := c.2.2.2.2.2.1
            obtain ⟨h1, a1, a2, a3, a4, a5, a6, a7, a8⟩ := C_viNew (h := h) (N := h 3 0 0) (l := l) (f := f) (u := u) rfl N0
            have hn : nL (th 0 a) p 1 < 6 := by rw [nL_v]; show a 2 297 p < 6; omega
            obtain ⟨h2, b1, b2, b3, b4, b5, b6⟩ := cW_add (t := 1) (cW_of c0) I (iG_n6 g0) z (by decide) hn rfl a2 (by omega) (Or.inr (Or.inr a3.1)) (Or.inr (Or.inl ⟨rfl, a3, a4, a5, v⟩))
            obtain ⟨A1, A2, A3, A4, A5, A6, A7⟩ := cAll_ad (t := 1) c0 g0 z (by decide) hn ⟨y.1, by omega⟩ b2 b3 b4
            rw [show 140 + 36 * p + 1 = 138 + 36 * p + 1 + 2 by omega] at b1 A6 A7
            rw [nL_v] at A7
            have s1 : shList h1 (138 + 36 * p + 1 + 2) := (a2 _ _ _ (by omega) (by omega)).trans L.1
            have sP := shPane_fA z b3 F.1
            refine cN_eq (e3'.trans ((vret_n (C_chkState.1 (by decide))).trans ((rX12_addVirtual_68 (by omega)).trans ((vret_n a1).trans ((rX12_addVirtual_81 s1).trans ((vret_v b1).trans ((rX12_addVirtual_84 sP).trans ((vret_n (C_fgl sP ⟨y.1, by omega⟩)).trans (rX12_addVirtual_91 A6))))))))) ?_
            rw [show fgl (138 + 36 * p) l h2 102 (138 + 36 * p + 1 + 2) 0 = a 2 297 p + 1 from A7]
            exact cN_v A1 A2 A3 (by omega) (by omega)
        · rw [b2i_f v, if_pos rfl] at e3'
          exact bad 2 (by decide) (by unfold kAv; rw [if_pos ⟨z, y⟩, if_neg (fun w => v w.2)]) e3'
      · exact bad 2 (by decide) (by unfold kAv; rw [if_pos ⟨z, y⟩, if_neg (fun v => w v.1)]) (e2.trans (vret_x (C_chkRange.2 w) rfl))
    · exact bad 1 (by decide) (if_neg (fun w => y w.2)) (e1.trans (vret_x (C_lineOfX c y) rfl))
  · exact bad 1 (by decide) (if_neg (fun w => z w.1)) ((rX12_addVirtual_0 c.1).trans (vret_x (C_paneOfX c z) rfl))
theorem iX_addVirtual (x : iA a) : iA (tAv a p l f u) := by
  unfold tAv
  by_cases k : kAv a p l f u = 0
  · obtain ⟨⟨z1, z2⟩, z3, z4⟩ := kAv_0.mp k
    rw [if_pos k]
    have f6 := (iG_n6 x.1 p z1.1 z1.2).2.1
    exact iA_dA (iA_tk x) z1 (by decide) (by rw [nL_v]; show a 2 297 p < 6; omega) (Or.inr (Or.inl ⟨rfl, z2, z3.1⟩))
  · rw [if_neg k]; exact iA_tk x
theorem iV_addVirtual (V : iV n a) (hn : 0 ≤ n) : iV n (tAv a p l f u) := by
  unfold tAv
  by_cases k : kAv a p l f u = 0
  · obtain ⟨⟨z1, z2⟩, z3, z4⟩ := kAv_0.mp k
    rw [if_pos k]
    exact iV_dA (a := th 0 a) V hn (by decide) (Or.inr (Or.inl ⟨rfl, z2, z3.1⟩))
  · rw [if_neg k]; exact V
end AVI

