/-! show and dropVirtual -/
section DRP
variable {h h2 a b : vH} {p q P Q X l x s f t j st r l0 x0 n d : Int}
noncomputable def kSo (a : vH) (p j : Int) : Int := if (0 ≤ p ∧ p < 4) ∧ (0 ≤ j ∧ j < a 2 293 p) then 0 else 1
noncomputable def tSo (a : vH) (p j : Int) : vH := if kSo a p j = 0 then dR (th 0 a) p 0 j else th (kSo a p j) a
noncomputable def kDv (a : vH) (p j : Int) : Int := if 0 ≤ p ∧ p < 4 then (if 0 ≤ j ∧ j < a 2 297 p then 0 else 2) else 1
noncomputable def tDv (a : vH) (p j : Int) : vH := if kDv a p j = 0 then dR (th 0 a) p 1 j else th (kDv a p j) a
theorem kSo_0 : kSo a p j = 0 ↔ (0 ≤ p ∧ p < 4) ∧ (0 ≤ j ∧ j < a 2 293 p) := by
  unfold kSo
  split
  · rename_i z; exact ⟨fun _ => z, fun _ => rfl⟩
  · rename_i z; exact ⟨fun w => absurd w (by decide), fun w => absurd w z⟩
theorem kDv_0 : kDv a p j = 0 ↔ (0 ≤ p ∧ p < 4) ∧ (0 ≤ j ∧ j < a 2 297 p) := by
  unfold kDv
  split
  · rename_i y
    split
    · rename_i z; exact ⟨fun _ => ⟨y, z⟩, fun _ => rfl⟩
    · rename_i z; exact ⟨fun w => absurd w (by decide), fun w => absurd w.2 z⟩
  · rename_i z; exact ⟨fun w => absurd w (by decide), fun w => absurd w.1 z⟩
theorem Mq_show (g : iG h) : mOut (tSo h p j) (kSo h p j) (h 2 293 p - 1) (vcl mX13_show [(1, 282), (0, p), (0, j)] h) := by
  have N := iG_n6 g
  have fb : 0 ≤ p ∧ p < 4 → 0 ≤ h 2 293 p ∧ h 2 293 p ≤ 6 := fun z => (N p z.1 z.2).1
  have e0 := rX13_show_0 (x1 := p) (x2 := j) (h := h) g.1.1 (by omega) (by omega) (fun z => by have := fb (by omega); omega) (fun z => by have := fb (by omega); omega)
  have ek : (if ¬ ((¬ (p < 0) ∧ ¬ (3 < p)) ∧ ¬ (j < 0) ∧ ¬ (h 2 293 p - 1 < j)) then (1 : Int) else 0) = kSo h p j := by
    unfold kSo
    split <;> split <;> first | rfl | omega
  rw [ek] at e0
  unfold tSo
  by_cases k : kSo h p j = 0
  · obtain ⟨z1, z2⟩ := kSo_0.mp k
    have f6 := fb z1
    rw [k] at e0 ⊢
    rw [if_pos rfl]
    have g0 : iG (th 0 h) := iG_tk g
    have C := M_dropsSpan g0.1.1 z1 (j := j) z2 f6.2
    have sM : shModel (dR (th 0 h) p 0 j) := shModel_sx dR_sx g0.1.1
    refine mO_eq (e0.trans ((fine1 g.1.1).trans ((rX13_show_42 g0.1.1).trans ((if_neg (by decide)).trans ((vret_n C).trans (rX13_show_53 sM z1.1 z1.2)))))) ?_
    have et : dR (th 0 h) p 0 j 1500 282 0 = 0 := (dR_o (by decide) (by decide)).trans vup_s
    have ew : dR (th 0 h) p 0 j 2 293 p = h 2 293 p - 1 := if_pos ⟨rfl, rfl, rfl⟩
    rw [ew]
    exact mO_t mF_rf et (fun _ => rfl)
  · rw [if_neg k]
    exact mO_eq (e0.trans ((fine0 g.1.1 k).trans ((rX13_show_42 (iG_th g).1.1).trans (if_pos rfl)))) (mO_t mF_rf vup_s (fun w => absurd w k))
theorem Cq_show (c : cAll h a) (g : iG a) (I : iD h) : cOut h (tSo a p j) (kSo a p j) (a 2 293 p - 1) e2 (vcl mX12_show [(1, 3), (0, p), (0, j)] h) := by
  unfold tSo
  by_cases z : 0 ≤ p ∧ p < 4
  · have c0 : cAll h (th 0 a) := cAll_th c
    have g0 : iG (th 0 a) := iG_tk g
    have F := (c0.2.2.1 p z.1 z.2).2.1.1
    have L := F.2.1.2.1
    have sz : h 102 (138 + 36 * p + 1 + 1) 0 = a 2 293 p := L.2.1
    have e1 := (rX12_show_0 (x1 := p) (x2 := j) c.1).trans ((vret_v (C_paneOf c z)).trans (rX12_show_5 F.1 (fun _ => L.1)))
    rw [sz] at e1
    by_cases k : 0 ≤ j ∧ j < a 2 293 p
    · have k0 : kSo a p j = 0 := kSo_0.mpr ⟨z, k⟩
      rw [k0, if_pos rfl]
      rw [if_neg (by omega), if_pos k.2] at e1
      obtain ⟨h2, e, r1, r2, r3, r4, r5, r6⟩ := cAll_rm (t := 0) (j := j) c0 g0 I z (by decide) (by rw [nL_s]; exact k)
      rw [nL_s, show 140 + 36 * p + 0 = 138 + 36 * p + 1 + 1 by omega] at r6
      rw [show 140 + 36 * p + 0 = 138 + 36 * p + 1 + 1 by omega] at r1 r5
      refine cO_eq (e1.trans ((vret_v r1).trans ((rX12_show_44 r2).trans ((vret_n (C_fgt r2 (by decide))).trans (rX12_show_50 r5))))) ?_
      rw [show fgt (138 + 36 * p) 0 h2 102 (138 + 36 * p + 1 + 1) 0 = a 2 293 p - 1 from r6]
      exact cO_v r3 r4
    · have k1 : kSo a p j = 1 := if_neg (fun w => k w.2)
      rw [k1, if_neg (by decide)]
      have eq : vcl mX12_show [(1, 3), (0, p), (0, j)] h = some (.inr "java/lang/IndexOutOfBoundsException", vexc h) := by
        refine e1.trans ?_
        by_cases y : j < 0
        · rw [if_pos y]
        · rw [if_neg y, if_neg (by omega)]
      exact cO_eq eq (cO_x (cAll_th c) cR_rf (by decide) rfl)
  · have k1 : kSo a p j = 1 := if_neg (fun w => z w.1)
    rw [k1, if_neg (by decide)]
    exact cO_eq ((rX12_show_0 c.1).trans (vret_x (C_paneOfX c z) rfl)) (cO_x (cAll_th c) cR_rf (by decide) rfl)
theorem nL_6 (g : iG a) (hp : 0 ≤ p ∧ p < 4) (ht : 0 ≤ t ∧ t < 3) : 0 ≤ nL a p t ∧ nL a p t ≤ 6 := by
  obtain ⟨k1, k2, k3⟩ := iG_n6 g p hp.1 hp.2
  rcases (show t = 0 ∨ t = 1 ∨ t = 2 by omega) with z | z | z <;> subst z
  · rw [nL_s]; exact k1
  · rw [nL_v]; exact k2
  · rw [nL_f]; exact k3
theorem iA_dR (x : iA a) (hp : 0 ≤ p ∧ p < 4) (ht : 0 ≤ t ∧ t < 3) (hj : 0 ≤ j ∧ j < nL a p t) : iA (dR (th 0 a) p t j) := by
  have n6 := nL_6 x.1 hp ht
  have g0 : iG (th 0 a) := iG_tk x.1
  exact ⟨iG_dR g0 hp ht hj, iH_ly (dR_eqY ht) (iH_th x.2.1), iM_ly (dR_eqY ht) (iM_th x.2.2.1), iC_dR (a := th 0 a) x.2.2.2 ht hp n6.2 hj.1⟩
theorem iA_tk {k : Int} (x : iA a) : iA (th k a) := ⟨iG_tk x.1, iH_th x.2.1, x.2.2.1, x.2.2.2⟩
theorem iX_show (x : iA a) : iA (tSo a p j) := by
  unfold tSo
  by_cases k : kSo a p j = 0
  · obtain ⟨z1, z2⟩ := kSo_0.mp k
    rw [if_pos k]
    exact iA_dR x z1 (by decide) (by rw [nL_s]; exact z2)
  · rw [if_neg k]; exact iA_tk x
theorem iV_show (x : iA a) (V : iV n a) : iV n (tSo a p j) := by
  unfold tSo
  by_cases k : kSo a p j = 0
  · obtain ⟨z1, z2⟩ := kSo_0.mp k
    rw [if_pos k]
    exact iV_dR (a := th 0 a) V (by decide) z1 (nL_6 x.1 z1 (by decide)).2 z2.1
  · rw [if_neg k]; exact V
theorem rZ_show : rZ a (tSo a p j) := by
  unfold tSo
  split
  · exact rZ_tr rZ_th (rZ_dR (by decide))
  · exact rZ_th
theorem Mq_dropVirtual (g : iG h) : mOut (tDv h p j) (kDv h p j) (h 2 297 p - 1) (vcl mX13_dropVirtual [(1, 282), (0, p), (0, j)] h) := by
  have N := iG_n6 g
  have fb : 0 ≤ p ∧ p < 4 → 0 ≤ h 2 297 p ∧ h 2 297 p ≤ 6 := fun z => (N p z.1 z.2).2.1
  have e0 := rX13_dropVirtual_0 (x1 := p) (x2 := j) (h := h) g.1.1 (by omega) (by omega) (fun z => by have := fb (by omega); omega) (fun z => by have := fb (by omega); omega)
  have ek : (if ¬ (p < 0) ∧ ¬ (3 < p) then (if ¬ (j < 0) ∧ ¬ (h 2 297 p - 1 < j) then (0 : Int) else 2) else 1) = kDv h p j := by
    unfold kDv
    split <;> split <;> first | rfl | omega | (split <;> first | rfl | omega)
  rw [ek] at e0
  unfold tDv
  by_cases k : kDv h p j = 0
  · obtain ⟨z1, z2⟩ := kDv_0.mp k
    have f6 := fb z1
    rw [k] at e0 ⊢
    rw [if_pos rfl]
    have g0 : iG (th 0 h) := iG_tk g
    have loop : ∀ (f : Nat) (e x3 : Int), e + f = 6 * p + th 0 h 2 297 p - 1 → 6 * p + j ≤ e → vrun mX13_dropVirtual 61 [(1, 282), (0, p), (0, j), (0, x3), (0, e)] [] (dRk (th 0 h) p 1 j e) = some (.inl (some (0, th 0 h 2 297 p - 1)), dR (th 0 h) p 1 j) := by
      intro f
      have f6' : 0 ≤ th 0 h 2 297 p ∧ th 0 h 2 297 p ≤ 6 := f6
      induction f with
      | zero =>
        intro e x3 he h6
        have s1 := shModel_sx (dRk_sx (a := th 0 h) (p := p) (t := 1) (j := j) (e := e)) g0.1.1
        have n1 : dRk (th 0 h) p 1 j e 2 297 p = th 0 h 2 297 p - 1 := dRk_n (t := 1)
        refine (rX13_dropVirtual_61 (by omega) (by omega) s1 z1.1 z1.2 (by omega) (by omega) (by omega) (by omega) (by omega) (by omega) (by omega) (by omega)).trans ((if_pos (by omega)).trans ?_)
        have hz : th 0 h 2 (293 + 4 * 1) p = th 0 h 2 297 p := rfl
        rw [n1, ← dRk_1, show e = 6 * p + th 0 h 2 (293 + 4 * 1) p - 1 by omega]
      | succ f ih =>
        intro e x3 he h6
        have s1 := shModel_sx (dRk_sx (a := th 0 h) (p := p) (t := 1) (j := j) (e := e)) g0.1.1
        have n1 : dRk (th 0 h) p 1 j e 2 297 p = th 0 h 2 297 p - 1 := dRk_n (t := 1)
        refine (rX13_dropVirtual_61 (by omega) (by omega) s1 z1.1 z1.2 (by omega) (by omega) (by omega) (by omega) (by omega) (by omega) (by omega) (by omega)).trans ((if_neg (by omega)).trans ?_)
        exact (congrArg _ (dRk_up (a := th 0 h) (p := p) (t := 1) (j := j) h6)).trans (ih (e + 1) x3 (by omega) (by omega))
    have f6' : 0 ≤ th 0 h 2 297 p ∧ th 0 h 2 297 p ≤ 6 := f6
    have z2' : 0 ≤ j ∧ j < th 0 h 2 297 p := z2
    refine mO_eq (e0.trans ((fine1 g.1.1).trans ((rX13_dropVirtual_38 g0.1.1 (fun _ => z1.1) (fun _ => z1.2) (fun _ => by omega) (fun _ => by omega) (fun _ => by omega) (fun _ => by omega) (fun _ => by omega) (fun _ => by omega)).trans ((if_neg (by decide)).trans ((congrArg _ (dRk_0 (a := th 0 h) (p := p) (t := 1) (j := j))).trans (loop (th 0 h 2 297 p - 1 - j).toNat (6 * p + j) _ (by omega) (Int.le_refl _))))))) ?_
    have et : dR (th 0 h) p 1 j 1500 282 0 = 0 := (dR_o (by decide) (by decide)).trans vup_s
    exact mO_t mF_rf et (fun _ => rfl)
  · rw [if_neg k]
    exact mO_eq (e0.trans ((fine0 g.1.1 k).trans ((rX13_dropVirtual_38 (iG_th g).1.1 (fun w => absurd rfl w) (fun w => absurd rfl w) (fun w => absurd rfl w) (fun w => absurd rfl w) (fun w => absurd rfl w) (fun w => absurd rfl w) (fun w => absurd rfl w) (fun w => absurd rfl w)).trans (if_pos rfl)))) (mO_t mF_rf vup_s (fun w => absurd w k))
theorem Cq_dropVirtual (c : cAll h a) (g : iG a) (I : iD h) : cOut h (tDv a p j) (kDv a p j) (a 2 297 p - 1) e3 (vcl mX12_dropVirtual [(1, 3), (0, p), (0, j)] h) := by
  unfold tDv
  by_cases z : 0 ≤ p ∧ p < 4
  · have c0 : cAll h (th 0 a) := cAll_th c
    have g0 : iG (th 0 a) := iG_tk g
    have F := (c0.2.2.1 p z.1 z.2).2.1.1
    have L := F.2.1.2.2.1
    have sz : h 102 (138 + 36 * p + 1 + 2) 0 = a 2 297 p := L.2.1
    have e1 := (rX12_dropVirtual_0 (x1 := p) (x2 := j) c.1).trans ((vret_v (C_paneOf c z)).trans (rX12_dropVirtual_5 F.1 (fun _ => L.1)))
    rw [sz] at e1
    by_cases k : 0 ≤ j ∧ j < a 2 297 p
    · have k0 : kDv a p j = 0 := kDv_0.mpr ⟨z, k⟩
      rw [k0, if_pos rfl]
      rw [if_neg (by omega), if_pos k.2] at e1
      obtain ⟨h2, e, r1, r2, r3, r4, r5, r6⟩ := cAll_rm (t := 1) (j := j) c0 g0 I z (by decide) (by rw [nL_v]; exact k)
      rw [nL_v, show 140 + 36 * p + 1 = 138 + 36 * p + 1 + 2 by omega] at r6
      rw [show 140 + 36 * p + 1 = 138 + 36 * p + 1 + 2 by omega] at r1 r5
      refine cO_eq (e1.trans ((vret_v r1).trans ((rX12_dropVirtual_44 r2).trans ((vret_n (C_fgt r2 (by decide))).trans (rX12_dropVirtual_50 r5))))) ?_
      rw [show fgt (138 + 36 * p) 0 h2 102 (138 + 36 * p + 1 + 2) 0 = a 2 297 p - 1 from r6]
      exact cO_v r3 r4
    · have k2 : kDv a p j = 2 := by unfold kDv; rw [if_pos z, if_neg k]
      rw [k2, if_neg (by decide)]
      have eq : vcl mX12_dropVirtual [(1, 3), (0, p), (0, j)] h = some (.inr "java/lang/IllegalArgumentException", vexc h) := by
        refine e1.trans ?_
        by_cases y : j < 0
        · rw [if_pos y]
        · rw [if_neg y, if_neg (by omega)]
      exact cO_eq eq (cO_x (cAll_th c) cR_rf (by decide) rfl)
  · have k1 : kDv a p j = 1 := if_neg z
    rw [k1, if_neg (by decide)]
    exact cO_eq ((rX12_dropVirtual_0 c.1).trans (vret_x (C_paneOfX c z) rfl)) (cO_x (cAll_th c) cR_rf (by decide) rfl)
theorem iX_dropVirtual (x : iA a) : iA (tDv a p j) := by
  unfold tDv
  by_cases k : kDv a p j = 0
  · obtain ⟨z1, z2⟩ := kDv_0.mp k
    rw [if_pos k]
    exact iA_dR x z1 (by decide) (by rw [nL_v]; exact z2)
  · rw [if_neg k]; exact iA_tk x
theorem iV_dropVirtual (x : iA a) (V : iV n a) : iV n (tDv a p j) := by
  unfold tDv
  by_cases k : kDv a p j = 0
  · obtain ⟨z1, z2⟩ := kDv_0.mp k
    rw [if_pos k]
    exact iV_dR (a := th 0 a) V (by decide) z1 (nL_6 x.1 z1 (by decide)).2 z2.1
  · rw [if_neg k]; exact V
theorem rZ_dropVirtual : rZ a (tDv a p j) := by
  unfold tDv
  split
  · exact rZ_tr rZ_th (rZ_dR (by decide))
  · exact rZ_th
end DRP
