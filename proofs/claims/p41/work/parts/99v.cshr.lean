/-! share, the class -/
section CSH
variable {h h1 h2 H a b : vH} {op wt ls lk : Int → Int} {p w l m : Int}
theorem Cq_share (c : cAll h a) (g : iG a) (i : iH a) : cOut h (tSh a p w l m) (kSh a p w l m) (vSh a p w l m) e3 (vcl mX12_share [(1, 3), (0, p), (0, w), (0, l), (0, m)] h) := by
  have c0 := cAll_th (k := 0) c
  have sS := (cAll_sh c).2
  have bad : ∀ {k : Int} {X : Option (vR × vH)}, kSh a p w l m = k → ¬ k = 0 → X = some (.inr (e3 k), vexc h) → cOut h (tSh a p w l m) (kSh a p w l m) (vSh a p w l m) e3 X := by
    intro k X ek nk eX
    unfold tSh
    rw [ek, if_neg nk]
    exact cO_eq eX (cO_x (cAll_th c) cR_rf nk rfl)
  by_cases z1 : 0 ≤ p ∧ p < 4
  · have e0 := (rX12_share_0 (x1 := p) (x2 := w) (x3 := l) (x4 := m) c.1).trans ((vret_n (C_chkPane.1 z1)).trans (rX12_share_5 c.1))
    by_cases z2 : (¬ (w < 1) ∧ ¬ (9 < w)) ∧ (¬ (l < 1) ∧ ¬ (8 < l)) ∧ (m = -1 ∨ ¬ (m < 1) ∧ ¬ (16 < m))
    · have e1 := e0.trans ((vret_n (C_chkRange.1 (by omega))).trans ((rX12_share_13 c.1).trans ((vret_n (C_chkRange.1 (by omega))).trans (rX12_share_21 c.1 sS (by omega) (by omega)))))
      have e2 : vrun mX12_share 0 [(1, 3), (0, p), (0, w), (0, l), (0, m)] [] h = if fX9_isOpen h p = 0 then vret vrun mX12_share 76 [(1, 3), (0, p), (0, w), (0, l), (0, m)] [] (vcl mX12_checkState [(1, 3), (0, 1)] h) else vret vrun mX12_share 65 [(1, 3), (0, p), (0, w), (0, l), (0, m)] [(1, 3)] (vcl mX9_hasRoomFor_ [(1, 127), (0, p), (0, (if m = (-1) then l else m))] h) := by
        by_cases z4 : m = -1
        · rw [if_pos z4] at e1; exact e1
        · rw [if_neg z4] at e1
          exact e1.trans ((vret_n (C_chkRange.1 (by omega))).trans (rX12_share_36 c.1 sS (by omega) (by omega)))
      rw [C_isOpen c z1] at e2
      have good : kSh a p w l m = 0 → vrun mX12_share 0 [(1, 3), (0, p), (0, w), (0, l), (0, m)] [] h = vret vrun mX12_share 76 [(1, 3), (0, p), (0, w), (0, l), (0, m)] [] (vcl mX12_checkState [(1, 3), (0, 1)] h) → cOut h (tSh a p w l m) (kSh a p w l m) (vSh a p w l m) e3 (vcl mX12_share [(1, 3), (0, p), (0, w), (0, l), (0, m)] h) := by
        intro k0 e3
        unfold tSh
        rw [k0, if_pos rfl]
        have st0 := cSt_of c0
        have st1 : cSt (vup (vup (vup h 2 129 p w) 2 130 p l) 2 131 p m) (th 0 a 2 289) (ud (th 0 a 2 290) p w) (ud (th 0 a 2 291) p l) (ud (th 0 a 2 292) p m) := fun q u v => by
          obtain ⟨q1, q2, q3, q4⟩ := st0 q u v
          refine ⟨(vup_r (by decide)).trans ((vup_r (by decide)).trans ((vup_r (by decide)).trans q1)), (vup_r (by decide)).trans ((vup_r (by decide)).trans ?_), (vup_r (by decide)).trans ?_, ?_⟩
          · rw [vup_2]; unfold ud; rw [q2]
          · rw [vup_2, vup_r (by decide)]; unfold ud; rw [q3]
          · rw [vup_2, vup_r (by decide), vup_r (by decide)]; unfold ud; rw [q4]
        have sS1 : shStack (vup (vup (vup h 2 129 p w) 2 130 p l) 2 131 p m) := shStack_sx (sx_up rfl (sx_up rfl (sx_up rfl sx_rf))) sS
        have bt : stB (th 0 a 2 289) (ud (th 0 a 2 290) p w) (ud (th 0 a 2 291) p l) (ud (th 0 a 2 292) p m) := stB_sh (iH_th i).1 z2
        obtain ⟨h2, d1, d2, d3⟩ := C_deal sS1 st1 bt (iH_th i).2.1
        have so : vcl mX9_setShare [(1, 127), (0, p), (0, w), (0, l), (0, m)] h = some (.inl none, h2) := (rX9_setShare_0 sS (by omega) (by omega)).trans ((if_pos (by omega)).trans ((vret_n d1).trans rX9_setShare_34))
        have x : ∀ (k : Nat) (r j : Int), ¬ (k = 2 ∧ 128 ≤ r ∧ r ≤ 133 ∧ 0 ≤ j ∧ j < 4) → h2 k r j = h k r j := fun k r j e => (d2 k r j (by omega)).trans ((if_neg (by omega)).trans ((if_neg (by omega)).trans (if_neg (by omega))))
        obtain ⟨F1, F2⟩ := C_stFin c0 x (cSt_F d2 st1) d3
        refine cO_eq (e3.trans ((vret_n (C_chkState.1 (by decide))).trans ((rX12_share_79 c.1 sS).trans ((vret_n so).trans ((rX12_share_91 F1.1 (cAll_sh F1).2 (by omega) (by omega)).trans ?_))))) (cO_v F1 F2)
        rw [C_heightOf F1 z1]
        rfl
      by_cases z3 : a 2 289 p = 0
      · rw [if_pos z3, if_pos (show (0 : Int) = 0 from rfl)] at e2
        exact good (kSh_0.mpr ⟨z1, z2, fun w => w.1 z3⟩) e2
      · rw [if_neg z3, if_neg (show ¬ ((1 : Int) = 0) by decide)] at e2
        have hr := C_hasRoom sS (cSt_of c) i.1 z1 (need := (if m = -1 then l else m)) (by split <;> omega)
        rw [sN_sh z3] at hr
        have e3 := e2.trans ((vret_v hr).trans (rX12_share_68 c.1))
        by_cases z4 : 24 < sSm (sN (a 2 289) (ud (a 2 291) p l) (ud (a 2 292) p m)) 4
        · have k3 : kSh a p w l m = 3 := by unfold kSh; rw [if_pos z1, if_pos z2, if_pos ⟨z3, z4⟩]
          rw [if_neg (not_not_intro z4), if_neg (not_not_intro rfl)] at e3
          exact bad k3 (by decide) (e3.trans (vret_x (C_chkState.2 rfl) rfl))
        · rw [if_pos z4, if_pos (by decide)] at e3
          exact good (kSh_0.mpr ⟨z1, z2, fun w => z4 w.2⟩) e3
    · have k2 : kSh a p w l m = 2 := by unfold kSh; rw [if_pos z1, if_neg z2]
      refine bad k2 (by decide) (e0.trans ?_)
      by_cases y1 : 1 ≤ w ∧ w ≤ 9
      · refine (vret_n (C_chkRange.1 y1)).trans ((rX12_share_13 c.1).trans ?_)
        by_cases y2 : 1 ≤ l ∧ l ≤ 8
        · refine (vret_n (C_chkRange.1 y2)).trans ((rX12_share_21 c.1 sS (by omega) (by omega)).trans ((if_neg (by omega)).trans ?_))
          exact vret_x (C_chkRange.2 (by omega)) rfl
        · exact vret_x (C_chkRange.2 y2) rfl
      · exact vret_x (C_chkRange.2 y1) rfl
  · have k1 : kSh a p w l m = 1 := by unfold kSh; rw [if_neg z1]
    exact bad k1 (by decide) ((rX12_share_0 c.1).trans (vret_x (C_chkPane.2 z1) rfl))
theorem iX_share (g : iG a) (i : iH a) : iG (tSh a p w l m) ∧ iH (tSh a p w l m) := by
  unfold tSh
  by_cases z : kSh a p w l m = 0
  · obtain ⟨z1, z2, z3⟩ := kSh_0.mp z
    rw [if_pos z]
    refine ⟨iG_st (iG_tk g), iH_st (iH_th i) (stB_sh (iH_th i).1 z2) (iH_th i).2.1 ?_⟩
    rw [th_e, th_e, th_e]
    by_cases y : a 2 289 p = 0
    · rw [sN_cl y]
      exact i.2.2.2.1
    · exact Int.not_lt.mp (fun w => z3 ⟨y, w⟩)
  · rw [if_neg z]
    exact ⟨iG_tk g, iH_th i⟩
end CSH

