/-! close, share -/
section CLO
variable {h h1 h2 H a b : vH} {op wt ls lk : Int → Int} {p w l m : Int}
theorem th_e {k : Int} (r : Int) : th k a 2 r = a 2 r := funext (fun _ => vup_k (by decide))
theorem sOn_1 {q : Int} (z : ¬ op q = 0) : sOn op q = 1 := if_pos z
theorem sOn_0 {q : Int} (z : op q = 0) : sOn op q = 0 := if_neg (not_not_intro z)
theorem on_ge (u : 0 ≤ p ∧ p < 4) (z : ¬ op p = 0) : 1 ≤ sSm (sOn op) 4 := by
  have x := sOn_1 z
  have q0 := sOn_in (op := op) (p := 0)
  have q1 := sOn_in (op := op) (p := 1)
  have q2 := sOn_in (op := op) (p := 2)
  have q3 := sOn_in (op := op) (p := 3)
  rw [sSm_4]
  have : p = 0 ∨ p = 1 ∨ p = 2 ∨ p = 3 := by omega
  rcases this with e | e | e | e <;> rw [e] at x <;> omega
theorem on_ex (u : 1 ≤ sSm (sOn op) 4) : ∃ q, 0 ≤ q ∧ q < 4 ∧ ¬ op q = 0 := Classical.byContradiction (fun n => by
  have z : ∀ q : Int, 0 ≤ q → q < 4 → sOn op q = 0 := fun q u v => sOn_0 (Classical.byContradiction (fun w => n ⟨q, u, v, w⟩))
  rw [sSm_4, z 0 (by decide) (by decide), z 1 (by decide) (by decide), z 2 (by decide) (by decide), z 3 (by decide) (by decide)] at u
  omega)
theorem on_dn (u : 0 ≤ p ∧ p < 4) (z : ¬ op p = 0) : sSm (sOn (ud op p 0)) 4 = sSm (sOn op) 4 - 1 := by
  have e := sSm_up (g := sOn op) (g2 := sOn (ud op p 0)) (r := p) u (fun i _ _ hi => by
    show (if ¬ (if i = p then (0 : Int) else op i) = 0 then (1 : Int) else 0) = sOn op i
    rw [if_neg hi]; rfl)
  rw [sOn_1 z, sOn_0 (op := ud op p 0) (if_pos rfl)] at e
  omega
theorem sN_dn (b : stB op wt ls lk) : sSm (sN (ud op p 0) ls lk) 4 ≤ sSm (sN op ls lk) 4 := sSm_le (fun q u v => by
  show (if (if q = p then (0 : Int) else op q) = 0 then 0 else if lk q = -1 then ls q else lk q) ≤ sN op ls lk q
  have bq := b q u v
  unfold sN
  by_cases z : q = p
  · rw [if_pos z, if_pos rfl]
    split
    · omega
    · split <;> omega
  · rw [if_neg z]; exact Int.le_refl _)
/-- close -/
noncomputable def kCs (a : vH) (p : Int) : Int := if 0 ≤ p ∧ p < 4 then (if a 2 289 p = 0 ∨ sSm (sOn (a 2 289)) 4 = 1 then 2 else 0) else 1
noncomputable def tCs (a : vH) (p : Int) : vH := if kCs a p = 0 then tO1 (th 0 a) p 0 else th (kCs a p) a
noncomputable def vCs (a : vH) (p : Int) : Int := sSm (sOn (ud (th 0 a 2 289) p 0)) 4
theorem kCs_0 : kCs a p = 0 ↔ (0 ≤ p ∧ p < 4) ∧ ¬ a 2 289 p = 0 ∧ ¬ sSm (sOn (a 2 289)) 4 = 1 := by
  unfold kCs
  by_cases z1 : 0 ≤ p ∧ p < 4
  · by_cases z2 : a 2 289 p = 0 ∨ sSm (sOn (a 2 289)) 4 = 1
    · rw [if_pos z1, if_pos z2]; exact ⟨fun w => absurd w (by decide), fun w => by omega⟩
    · rw [if_pos z1, if_neg z2]; exact ⟨fun _ => ⟨z1, by omega⟩, fun _ => rfl⟩
  · rw [if_neg z1]; exact ⟨fun w => absurd w (by decide), fun w => absurd w.1 z1⟩
theorem cO_bad {k v : Int} {t : vH} {X : Option (vR × vH)} (c : cAll h a) (ek : k = 2) (t2 : t = th k a) (eX : X = some (.inr "java/lang/IllegalStateException", vexc h)) : cOut h t k v e2 X := by
  rw [t2, ek]
  exact cO_eq eX (cO_x (cAll_th c) cR_rf (by decide) rfl)
theorem Cq_close (c : cAll h a) (g : iG a) (i : iH a) : cOut h (tCs a p) (kCs a p) (vCs a p) e2 (vcl mX12_close [(1, 3), (0, p)] h) := by
  have c0 := cAll_th (k := 0) c
  have sS := (cAll_sh c).2
  by_cases z1 : 0 ≤ p ∧ p < 4
  · have e0 := (rX12_close_0 (x1 := p) c.1).trans ((vret_n (C_chkPane.1 z1)).trans (rX12_close_5 c.1 sS (by omega) (by omega)))
    rw [C_isOpen c z1] at e0
    by_cases z2 : a 2 289 p = 0
    · rw [if_pos z2, if_pos (show (0 : Int) = 0 from rfl)] at e0
      have k2 : kCs a p = 2 := by unfold kCs; rw [if_pos z1, if_pos (Or.inl z2)]
      exact cO_bad c k2 (if_neg (by rw [k2]; decide)) (e0.trans (vret_x (C_chkState.2 rfl) rfl))
    · rw [if_neg z2, if_neg (show ¬ ((1 : Int) = 0) by decide)] at e0
      have e1 := e0.trans ((vret_v (C_openOnes sS (cSt_of c))).trans (rX12_close_24 c.1))
      have ge := on_ge z1 z2
      by_cases z3 : sSm (sOn (a 2 289)) 4 = 1
      · have k2 : kCs a p = 2 := by unfold kCs; rw [if_pos z1, if_pos (Or.inr z3)]
        rw [if_neg (show ¬ ¬ (sSm (sOn (a 2 289)) 4 ≤ 1) by omega)] at e1
        exact cO_bad c k2 (if_neg (by rw [k2]; decide)) (e1.trans (vret_x (C_chkState.2 rfl) rfl))
      · have k0 : kCs a p = 0 := kCs_0.mpr ⟨z1, z2, z3⟩
        rw [if_pos (show ¬ (sSm (sOn (a 2 289)) 4 ≤ 1) by omega)] at e1
        unfold tCs
        rw [k0, if_pos rfl]
        have st0 := cSt_of c0
        have st1 : cSt (vup h 2 128 p 0) (ud (th 0 a 2 289) p 0) (th 0 a 2 290) (th 0 a 2 291) (th 0 a 2 292) := fun q u v => by
          obtain ⟨q1, q2, q3, q4⟩ := st0 q u v
          refine ⟨?_, (vup_r (by decide)).trans q2, (vup_r (by decide)).trans q3, (vup_r (by decide)).trans q4⟩
          rw [vup_2]
          unfold ud
          rw [q1]
        have sS1 : shStack (vup h 2 128 p 0) := shStack_sx (sx_up rfl sx_rf) sS
        have bt : stB (ud (th 0 a 2 289) p 0) (th 0 a 2 290) (th 0 a 2 291) (th 0 a 2 292) := stB_op (iH_th i).1 (Or.inl rfl)
        have ho : ∃ q, 0 ≤ q ∧ q < 4 ∧ ¬ ud (th 0 a 2 289) p 0 q = 0 := on_ex (by
          rw [th_e, on_dn z1 z2]
          omega)
        obtain ⟨h2, d1, d2, d3⟩ := C_deal sS1 st1 bt ho
        have so : vcl mX9_setOpen [(1, 127), (0, p), (0, 0)] h = some (.inl none, h2) := (rX9_setOpen_0 sS (by omega) (by omega) (by omega)).trans ((if_pos (by omega)).trans ((vret_n d1).trans rX9_setOpen_19))
        have x : ∀ (k : Nat) (r j : Int), ¬ (k = 2 ∧ 128 ≤ r ∧ r ≤ 133 ∧ 0 ≤ j ∧ j < 4) → h2 k r j = h k r j := fun k r j e => (d2 k r j (by omega)).trans (if_neg (by omega))
        have st2 := cSt_F d2 st1
        obtain ⟨F1, F2⟩ := C_stFin c0 x st2 d3
        exact cO_eq (e1.trans ((vret_n (C_chkState.1 (by decide))).trans ((rX12_close_36 c.1 sS).trans ((vret_n so).trans ((rX12_close_45 F1.1 (cAll_sh F1).2).trans ((vret_v (C_openOnes (cAll_sh F1).2 st2)).trans rX12_close_52)))))) (cO_v F1 F2)
  · have k1 : kCs a p = 1 := by unfold kCs; rw [if_neg z1]
    unfold tCs
    rw [k1, if_neg (by decide)]
    exact cO_eq ((rX12_close_0 c.1).trans (vret_x (C_chkPane.2 z1) rfl)) (cO_x (cAll_th c) cR_rf (by decide) rfl)
theorem iX_close (g : iG a) (i : iH a) : iG (tCs a p) ∧ iH (tCs a p) := by
  unfold tCs
  by_cases z : kCs a p = 0
  · obtain ⟨z1, z2, z3⟩ := kCs_0.mp z
    rw [if_pos z]
    have ge := on_ge z1 z2
    refine ⟨iG_st (iG_tk g), iH_st (iH_th i) (stB_op (iH_th i).1 (Or.inl rfl)) (on_ex ?_) ?_⟩
    · rw [th_e, on_dn z1 z2]; omega
    · rw [th_e, th_e, th_e]
      exact Int.le_trans (sN_dn i.1) i.2.2.2.1
  · rw [if_neg z]
    exact ⟨iG_tk g, iH_th i⟩
end CLO

