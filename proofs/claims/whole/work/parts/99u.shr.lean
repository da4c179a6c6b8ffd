/-! share -/
section SHR
variable {h h1 h2 H a b : vH} {op wt ls lk : Int → Int} {p w l m : Int}
def shR (w l m : Int) : Prop := (¬ (w < 1) ∧ ¬ (9 < w)) ∧ (¬ (l < 1) ∧ ¬ (8 < l)) ∧ (m = -1 ∨ ¬ (m < 1) ∧ ¬ (16 < m))
noncomputable def tS1 (a : vH) (p w l m : Int) : vH := tSt a (a 2 289) (ud (a 2 290) p w) (ud (a 2 291) p l) (ud (a 2 292) p m)
noncomputable def kSh (a : vH) (p w l m : Int) : Int := if 0 ≤ p ∧ p < 4 then (if (¬ (w < 1) ∧ ¬ (9 < w)) ∧ (¬ (l < 1) ∧ ¬ (8 < l)) ∧ (m = -1 ∨ ¬ (m < 1) ∧ ¬ (16 < m)) then (if ¬ a 2 289 p = 0 ∧ 24 < sSm (sN (a 2 289) (ud (a 2 291) p l) (ud (a 2 292) p m)) 4 then 3 else 0) else 2) else 1
noncomputable def tSh (a : vH) (p w l m : Int) : vH := if kSh a p w l m = 0 then tS1 (th 0 a) p w l m else th (kSh a p w l m) a
noncomputable def vSh (a : vH) (p w l m : Int) : Int := tS1 (th 0 a) p w l m 2 310 p
theorem kSh_0 : kSh a p w l m = 0 ↔ (0 ≤ p ∧ p < 4) ∧ shR w l m ∧ ¬ (¬ a 2 289 p = 0 ∧ 24 < sSm (sN (a 2 289) (ud (a 2 291) p l) (ud (a 2 292) p m)) 4) := by
  unfold kSh
  by_cases z1 : 0 ≤ p ∧ p < 4
  · rw [if_pos z1]
    by_cases z2 : (¬ (w < 1) ∧ ¬ (9 < w)) ∧ (¬ (l < 1) ∧ ¬ (8 < l)) ∧ (m = -1 ∨ ¬ (m < 1) ∧ ¬ (16 < m))
    · rw [if_pos z2]
      by_cases z3 : ¬ a 2 289 p = 0 ∧ 24 < sSm (sN (a 2 289) (ud (a 2 291) p l) (ud (a 2 292) p m)) 4
      · rw [if_pos z3]; exact ⟨fun w => absurd w (by decide), fun w => absurd z3 w.2.2⟩
      · rw [if_neg z3]; exact ⟨fun _ => ⟨z1, z2, z3⟩, fun _ => rfl⟩
    · rw [if_neg z2]; exact ⟨fun w => absurd w (by decide), fun w => absurd w.2.1 z2⟩
  · rw [if_neg z1]; exact ⟨fun w => absurd w (by decide), fun w => absurd w.1 z1⟩
theorem stB_sh (b : stB op wt ls lk) (x : shR w l m) : stB op (ud wt p w) (ud ls p l) (ud lk p m) := fun q u v => by
  obtain ⟨b1, b2, b3, b4⟩ := b q u v
  obtain ⟨x1, x2, x3⟩ := x
  unfold ud
  refine ⟨?_, ?_, ?_, b4⟩
  · split
    · omega
    · exact b1
  · split
    · omega
    · exact b2
  · split
    · omega
    · exact b3
theorem sN_cl (z : op p = 0) : sN op (ud ls p l) (ud lk p m) = sN op ls lk := funext (fun q => by
  unfold sN
  by_cases y : q = p
  · rw [y, if_pos z, if_pos z]
  · have e1 : ud ls p l q = ls q := if_neg y
    have e2 : ud lk p m q = lk q := if_neg y
    rw [e1, e2])
theorem sN_sh (z : ¬ op p = 0) : sSm (ud (sN op ls lk) p (if m = -1 then l else m)) 4 = sSm (sN op (ud ls p l) (ud lk p m)) 4 := by
  have e : ∀ q, ud (sN op ls lk) p (if m = -1 then l else m) q = sN op (ud ls p l) (ud lk p m) q := fun q => by
    by_cases y : q = p
    · rw [y]
      have e1 : ud ls p l p = l := if_pos rfl
      have e2 : ud lk p m p = m := if_pos rfl
      have e3 : ud (sN op ls lk) p (if m = -1 then l else m) p = (if m = -1 then l else m) := if_pos rfl
      unfold sN at e3 ⊢
      rw [if_neg z, e1, e2]
      exact e3
    · have e1 : ud ls p l q = ls q := if_neg y
      have e2 : ud lk p m q = lk q := if_neg y
      have e3 : ud (sN op ls lk) p (if m = -1 then l else m) q = sN op ls lk q := if_neg y
      rw [e3]
      unfold sN
      rw [e1, e2]
  rw [sSm_4, sSm_4, e, e, e, e]
theorem M_shFin (g : iG h) (i : iH h) (hp : 0 ≤ p ∧ p < 4) (hx : shR w l m) (e : ∀ (k : Nat) (r j : Int), ¬ (k = 2 ∧ 0 ≤ j ∧ j < 4 ∧ 289 ≤ r ∧ r ≤ 292) → H k r j = h k r j) (s : mSt H (h 2 289) (h 2 290) (ud (h 2 291) p l) (ud (h 2 292) p m)) (sM : shModel H) {x5 x6 x7 : Int} {v8 v9 : vv} : ∃ h2, vret vrun mX13_share 190 [(1, 282), (0, p), (0, w), (0, l), (0, m), (0, x5), (0, x6), (0, x7), v8, v9] [] (vcl mX13_isFine [(1, 282), (0, 0)] H) = some (.inl (some (0, vSh h p w l m)), h2) ∧ h2 = tS1 (th 0 h) p w l m := by
  have sM1 : shModel (th 0 H) := shModel_sx (sx_up rfl sx_rf) sM
  have sM2 : shModel (vup (th 0 H) 2 290 p w) := shModel_sx (sx_up rfl sx_rf) sM1
  have s2 : mSt (vup (th 0 H) 2 290 p w) (th 0 h 2 289) (ud (th 0 h 2 290) p w) (ud (th 0 h 2 291) p l) (ud (th 0 h 2 292) p m) := fun q u v => by
    obtain ⟨q1, q2, q3, q4⟩ := s q u v
    rw [th_e, th_e, th_e, th_e]
    refine ⟨(vup_r (by decide)).trans ((vup_k (by decide)).trans q1), ?_, (vup_r (by decide)).trans ((vup_k (by decide)).trans q3), (vup_r (by decide)).trans ((vup_k (by decide)).trans q4)⟩
    rw [vup_2, th_e]
    unfold ud
    rw [q2]
  have bt : stB (th 0 h 2 289) (ud (th 0 h 2 290) p w) (ud (th 0 h 2 291) p l) (ud (th 0 h 2 292) p m) := stB_sh (iH_th i).1 hx
  obtain ⟨h2, d1, d2, d3⟩ := M_shares sM2 s2 bt
  have eq : h2 = tS1 (th 0 h) p w l m := st_eq (fun k r j n => by
    by_cases y : k = 1500 ∧ r = 282 ∧ j = 0
    · obtain ⟨rfl, rfl, rfl⟩ := y
      rw [vup_k (by decide)]
      exact vup_s.trans vup_s.symm
    · unfold th vup
      rw [if_neg (by omega), if_neg y, if_neg y]
      exact e k r j n) s2 d2 d3
  have sM3 := shModel_sx (hF_sx d2) sM2
  refine ⟨h2, ?_, eq⟩
  have e9 := (fine1 sM (m := mX13_share) (pc := 190) (L := [(1, 282), (0, p), (0, w), (0, l), (0, m), (0, x5), (0, x6), (0, x7), v8, v9]) (rest := [])).trans ((rX13_share_193 sM1 (by omega) (by omega)).trans ((if_neg (by decide)).trans ((vret_n d1).trans (rX13_share_209 sM3 hp.1 hp.2))))
  rw [eq] at e9 ⊢
  exact e9
theorem Mq_share (g : iG h) (i : iH h) : mOut (tSh h p w l m) (kSh h p w l m) (vSh h p w l m) (vcl mX13_share [(1, 282), (0, p), (0, w), (0, l), (0, m)] h) := by
  have e0 := rX13_share_0 (x1 := p) (x2 := w) (x3 := l) (x4 := m) (h := h) g.1.1 (by omega) (by omega)
  have bad : ∀ {k : Int} {X : Option (vR × vH)} {x5 x6 x7 : Int} {v8 v9 : vv}, kSh h p w l m = k → ¬ k = 0 → X = vret vrun mX13_share 190 [(1, 282), (0, p), (0, w), (0, l), (0, m), (0, x5), (0, x6), (0, x7), v8, v9] [] (vcl mX13_isFine [(1, 282), (0, k)] h) → mOut (tSh h p w l m) (kSh h p w l m) (vSh h p w l m) X := by
    intro k X x5 x6 x7 v8 v9 ek nk eX
    unfold tSh
    rw [ek, if_neg nk]
    exact mO_eq (eX.trans ((fine0 g.1.1 nk).trans ((rX13_share_193 (iG_th g).1.1 (by omega) (by omega)).trans (if_pos rfl)))) (mO_t mF_rf vup_s (fun w => absurd w nk))
  have good : ∀ {H : vH} {X : Option (vR × vH)} {x5 x6 x7 : Int} {v8 v9 : vv}, kSh h p w l m = 0 → (∀ (k : Nat) (r j : Int), ¬ (k = 2 ∧ 0 ≤ j ∧ j < 4 ∧ 289 ≤ r ∧ r ≤ 292) → H k r j = h k r j) → mSt H (h 2 289) (h 2 290) (ud (h 2 291) p l) (ud (h 2 292) p m) → shModel H → X = vret vrun mX13_share 190 [(1, 282), (0, p), (0, w), (0, l), (0, m), (0, x5), (0, x6), (0, x7), v8, v9] [] (vcl mX13_isFine [(1, 282), (0, 0)] H) → mOut (tSh h p w l m) (kSh h p w l m) (vSh h p w l m) X := by
    intro H X x5 x6 x7 v8 v9 ek e s sM eX
    obtain ⟨z1, z2, z3⟩ := kSh_0.mp ek
    obtain ⟨h2, f1, f2⟩ := M_shFin g i z1 z2 e s sM (x5 := x5) (x6 := x6) (x7 := x7) (v8 := v8) (v9 := v9)
    unfold tSh
    rw [ek, if_pos rfl]
    refine mO_eq (eX.trans f1) ?_
    rw [f2]
    exact mO_t mF_rf ((st_k (by omega)).trans vup_s) (fun _ => rfl)
  by_cases z1 : ¬ (p < 0) ∧ ¬ (3 < p)
  · have y1 : 0 ≤ p ∧ p < 4 := by omega
    by_cases z2 : (¬ (w < 1) ∧ ¬ (9 < w)) ∧ (¬ (l < 1) ∧ ¬ (8 < l)) ∧ (m = -1 ∨ ¬ (m < 1) ∧ ¬ (16 < m))
    · rw [if_pos (show (¬ (p < 0) ∧ ¬ (3 < p)) ∧ (¬ (w < 1) ∧ ¬ (9 < w)) ∧ (¬ (l < 1) ∧ ¬ (8 < l)) ∧ (m = -1 ∨ ¬ (m < 1) ∧ ¬ (16 < m)) from ⟨z1, z2⟩)] at e0
      by_cases z3 : h 2 289 p = 0
      · rw [if_pos z3, if_pos z1, if_pos z2, if_pos z1, if_pos z2] at e0
        have k0 : kSh h p w l m = 0 := kSh_0.mpr ⟨y1, z2, fun w => w.1 z3⟩
        refine good k0 (fun k r j n => ?_) (fun q u v => ?_) ?_ e0
        · unfold vup
          rw [if_neg (by omega), if_neg (by omega), if_neg (by omega), if_neg (by omega)]
        · unfold vup ud
          by_cases y : q = p
          · simp [y]
          · simp [y]
        · exact shModel_sx (sx_up rfl (sx_up rfl (sx_up rfl (sx_up rfl sx_rf)))) g.1.1
      · rw [if_neg z3] at e0
        have sM1 : shModel (vup (vup h 2 291 p l) 2 292 p m) := shModel_sx (sx_up rfl (sx_up rfl sx_rf)) g.1.1
        have s1 : mSt (vup (vup h 2 291 p l) 2 292 p m) (h 2 289) (h 2 290) (ud (h 2 291) p l) (ud (h 2 292) p m) := fun q u v => by
          unfold vup ud
          by_cases y : q = p
          · simp [y]
          · simp [y]
        have b1 : stB (h 2 289) (h 2 290) (ud (h 2 291) p l) (ud (h 2 292) p m) := fun q u v => by
          have bq := stB_sh (p := p) i.1 z2 q u v
          exact ⟨(i.1 q u v).1, bq.2⟩
        have hr := M_hasRoom sM1 s1 b1
        by_cases z4 : 24 < sSm (sN (h 2 289) (ud (h 2 291) p l) (ud (h 2 292) p m)) 4
        · have k3 : kSh h p w l m = 3 := by unfold kSh; rw [if_pos y1, if_pos z2, if_pos ⟨z3, z4⟩]
          rw [if_neg (not_not_intro z4)] at hr
          have e1 := e0.trans ((vret_v hr).trans (rX13_share_116 sM1 y1.1 y1.2))
          have same : vup (vup (vup (vup h 2 291 p l) 2 292 p m) 2 291 p (h 2 291 p)) 2 292 p (h 2 292 p) = h := by
            funext k r j
            unfold vup
            by_cases y : k = 2 ∧ r = 292 ∧ j = p
            · rw [if_pos y, y.1, y.2.1, y.2.2]
            · rw [if_neg y]
              by_cases y2 : k = 2 ∧ r = 291 ∧ j = p
              · rw [if_pos y2, y2.1, y2.2.1, y2.2.2]
              · rw [if_neg y2, if_neg y, if_neg y2]
          rw [if_pos z1, if_pos z2] at e1
          rw [if_neg (show ¬ ((1 : Int) = 0) by decide), if_neg (show ¬ ((1 : Int) = 0) by decide), if_neg (not_not_intro (show (0 : Int) = 0 from rfl)), if_neg (not_not_intro (show (0 : Int) = 0 from rfl)), if_neg (not_not_intro (show (0 : Int) = 0 from rfl)), if_neg (not_not_intro (show (0 : Int) = 0 from rfl)), same] at e1
          exact bad k3 (by decide) e1
        · have k0 : kSh h p w l m = 0 := kSh_0.mpr ⟨y1, z2, fun w => z4 w.2⟩
          rw [if_pos z4] at hr
          have e1 := e0.trans ((vret_v hr).trans (rX13_share_116 sM1 y1.1 y1.2))
          rw [if_pos z1, if_pos z2] at e1
          rw [if_neg (show ¬ ((1 : Int) = 0) by decide), if_neg (show ¬ ((1 : Int) = 0) by decide), if_pos (show ¬ ((1 : Int) = 0) by decide), if_pos (show ¬ ((1 : Int) = 0) by decide), if_pos (show ¬ ((1 : Int) = 0) by decide), if_pos (show ¬ ((1 : Int) = 0) by decide)] at e1
          refine good k0 (fun k r j n => ?_) (fun q u v => ?_) ?_ e1
          · unfold vup
            rw [if_neg (by omega), if_neg (by omega), if_neg (by omega), if_neg (by omega)]
          · unfold vup ud
            by_cases y : q = p
            · simp [y]
            · simp [y]
          · exact shModel_sx (sx_up rfl (sx_up rfl sx_rf)) sM1
    · have k2 : kSh h p w l m = 2 := by unfold kSh; rw [if_pos y1, if_neg z2]
      rw [if_neg (fun (w : (¬ (p < 0) ∧ ¬ (3 < p)) ∧ _) => z2 w.2)] at e0
      have ek : ∀ d : Int, (if ¬ (p < 0) ∧ ¬ (3 < p) then (if (¬ (w < 1) ∧ ¬ (9 < w)) ∧ (¬ (l < 1) ∧ ¬ (8 < l)) ∧ (m = -1 ∨ ¬ (m < 1) ∧ ¬ (16 < m)) then d else 2) else 1) = 2 := fun d => by rw [if_pos z1, if_neg z2]
      rw [ek] at e0
      exact bad k2 (by decide) e0
  · have k1 : kSh h p w l m = 1 := by unfold kSh; rw [if_neg (by omega)]
    rw [if_neg (fun (w : (¬ (p < 0) ∧ ¬ (3 < p)) ∧ _) => z1 w.1)] at e0
    have ek : ∀ d : Int, (if ¬ (p < 0) ∧ ¬ (3 < p) then d else 1) = 1 := fun d => by rw [if_neg z1]
    rw [ek] at e0
    exact bad k1 (by decide) e0
end SHR
