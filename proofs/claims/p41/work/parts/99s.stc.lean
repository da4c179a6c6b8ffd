/-! the calls of the stack -/
def ud (f : Int → Int) (p v : Int) : Int → Int := fun i => if i = p then v else f i
noncomputable def tSt (a : vH) (op wt ls lk : Int → Int) : vH := fun k r i => if k = 2 ∧ 0 ≤ i ∧ i < 4 then (if r = 289 then op i else if r = 290 then wt i else if r = 291 then ls i else if r = 292 then lk i else if r = 310 then sHt op wt ls lk i else a k r i) else a k r i
section STC
variable {h h1 h2 H a b : vH} {op wt ls lk : Int → Int} {p : Int}
theorem eqL_st : eqL a (tSt a op wt ls lk) := by
  intro k r i e f
  unfold tSt
  by_cases z : k = 2 ∧ 0 ≤ i ∧ i < 4
  · rw [if_pos z, if_neg (by omega), if_neg (by omega), if_neg (by omega), if_neg (by omega), if_neg (by omega)]
  · rw [if_neg z]
theorem st_k {k : Nat} {r i : Int} (n : ¬ (k = 2 ∧ ((289 ≤ r ∧ r ≤ 292) ∨ r = 310))) : tSt a op wt ls lk k r i = a k r i := by
  unfold tSt
  by_cases z : k = 2 ∧ 0 ≤ i ∧ i < 4
  · rw [if_pos z, if_neg (by omega), if_neg (by omega), if_neg (by omega), if_neg (by omega), if_neg (by omega)]
  · rw [if_neg z]
theorem st_r (hp : 0 ≤ p ∧ p < 4) : tSt a op wt ls lk 2 289 p = op p ∧ tSt a op wt ls lk 2 290 p = wt p ∧ tSt a op wt ls lk 2 291 p = ls p ∧ tSt a op wt ls lk 2 292 p = lk p ∧ tSt a op wt ls lk 2 310 p = sHt op wt ls lk p := by
  have z : (2 : Nat) = 2 ∧ 0 ≤ p ∧ p < 4 := ⟨rfl, hp⟩
  refine ⟨?_, ?_, ?_, ?_, ?_⟩
  · exact (if_pos z).trans (if_pos rfl)
  · exact (if_pos z).trans ((if_neg (by decide)).trans (if_pos rfl))
  · exact (if_pos z).trans ((if_neg (by decide)).trans ((if_neg (by decide)).trans (if_pos rfl)))
  · exact (if_pos z).trans ((if_neg (by decide)).trans ((if_neg (by decide)).trans ((if_neg (by decide)).trans (if_pos rfl))))
  · exact (if_pos z).trans ((if_neg (by decide)).trans ((if_neg (by decide)).trans ((if_neg (by decide)).trans ((if_neg (by decide)).trans (if_pos rfl)))))
noncomputable def sOn (op : Int → Int) (p : Int) : Int := if ¬ op p = 0 then 1 else 0
theorem sOn_in {p : Int} : 0 ≤ sOn op p ∧ sOn op p ≤ 1 := by
  unfold sOn
  split <;> omega
/-- the class: room, open ones -/
theorem C_needOf (s : cSt H op wt ls lk) (hp : 0 ≤ p ∧ p < 4) : fX9_needOf H p = if lk p = -1 then ls p else lk p := by
  have sp := s p hp.1 hp.2
  unfold fX9_needOf
  rw [if_pos (by omega), sp.2.2.1, sp.2.2.2]
theorem C_hasRoom (sS : shStack H) (s : cSt H op wt ls lk) (b : stB op wt ls lk) (hp : 0 ≤ p ∧ p < 4) {need : Int} (hn : 0 ≤ need ∧ need ≤ 100) : vcl mX9_hasRoomFor_ [(1, 127), (0, p), (0, need)] H = some (.inl (some (0, if ¬ (24 < sSm (ud (sN op ls lk) p need) 4) then 1 else 0)), H) := by
  have nb : ∀ q, 0 ≤ q → q < 4 → 0 ≤ sN op ls lk q ∧ sN op ls lk q ≤ 16 := fun p u v => by
    have := b p u v
    unfold sN
    split
    · omega
    · split <;> omega
  have nb0 : ∀ q, 0 ≤ q → q < 4 → 0 ≤ ud (sN op ls lk) p 0 q ∧ ud (sN op ls lk) p 0 q ≤ 16 := fun q u v => by
    have := nb q u v
    unfold ud
    split <;> omega
  have tot : sSm (ud (sN op ls lk) p need) 4 = sSm (ud (sN op ls lk) p 0) 4 + need := by
    have u := sSm_up (g := ud (sN op ls lk) p 0) (g2 := ud (sN op ls lk) p need) (r := p) hp (fun i _ _ hi => by unfold ud; rw [if_neg hi, if_neg hi])
    have e1 : ud (sN op ls lk) p need p = need := if_pos rfl
    have e2 : ud (sN op ls lk) p 0 p = 0 := if_pos rfl
    omega
  have loop : ∀ (n j : Nat), j + n = 4 → vrun mX9_hasRoomFor_ 5 [(1, 127), (0, p), (0, need), (0, need + sSm (ud (sN op ls lk) p 0) j), (0, (j : Int))] [] H = some (.inl (some (0, if ¬ (24 < sSm (ud (sN op ls lk) p need) 4) then 1 else 0)), H) := by
    intro n
    induction n with
    | zero =>
      intro j hj
      have e : j = 4 := by omega
      subst e
      refine (rX9_hasRoomFor__5 sS (by omega) (by omega) (by omega) (by omega) (by omega) (by omega)).trans ?_
      rw [if_pos (by omega), tot, Int.add_comm]
    | succ n ih =>
      intro j hj
      have sj := s j (by omega) (by omega)
      have q := sSm_in nb0 j (by omega)
      have nj := nb j (by omega) (by omega)
      have eS : sSm (ud (sN op ls lk) p 0) (j + 1) = sSm (ud (sN op ls lk) p 0) j + ud (sN op ls lk) p 0 j := rfl
      have en := C_needOf s (p := (j : Int)) (by omega)
      have bj := b j (by omega) (by omega)
      have enb : 0 ≤ fX9_needOf H j ∧ fX9_needOf H j ≤ 16 := by
        rw [en]
        split <;> omega
      refine (rX9_hasRoomFor__5 sS (by omega) (by omega) (by omega) (by omega) (by omega) (by omega)).trans ?_
      have ev : (if (j : Int) = p then need + sSm (ud (sN op ls lk) p 0) j else (if H 2 128 (j : Int) = 0 then need + sSm (ud (sN op ls lk) p 0) j else need + sSm (ud (sN op ls lk) p 0) j + fX9_needOf H j)) = need + sSm (ud (sN op ls lk) p 0) (j + 1) := by
        rw [eS, sj.1, en]
        by_cases z : (j : Int) = p
        · have : ud (sN op ls lk) p 0 j = 0 := if_pos z
          rw [if_pos z]; omega
        · have u : ud (sN op ls lk) p 0 j = sN op ls lk j := if_neg z
          rw [if_neg z, u]
          unfold sN
          by_cases y : op j = 0
          · rw [if_pos y, if_pos y]; omega
          · rw [if_neg y, if_neg y]; omega
      rw [if_neg (by omega), ev, show (j : Int) + 1 = ((j + 1 : Nat) : Int) by omega]
      exact ih (j + 1) (by omega)
  refine rX9_hasRoomFor__0.trans (Eq.trans ?_ (loop 4 0 (by omega)))
  show _ = vrun mX9_hasRoomFor_ 5 [(1, 127), (0, p), (0, need), (0, need + 0), (0, 0)] [] H
  rw [Int.add_zero]
theorem C_openOnes (sS : shStack H) (s : cSt H op wt ls lk) : vcl mX9_openOnes [(1, 127)] H = some (.inl (some (0, sSm (sOn op) 4)), H) := by
  have loop : ∀ (n j : Nat), j + n = 4 → vrun mX9_openOnes 4 [(1, 127), (0, sSm (sOn op) j), (0, (j : Int))] [] H = some (.inl (some (0, sSm (sOn op) 4)), H) := by
    intro n
    induction n with
    | zero =>
      intro j hj
      have e : j = 4 := by omega
      subst e
      refine (rX9_openOnes_4 sS (by omega) (by omega) (by omega)).trans ?_
      rw [if_pos (by omega)]
    | succ n ih =>
      intro j hj
      have sj := s j (by omega) (by omega)
      have q := sSm_in (g := sOn op) (m := 1) (fun p _ _ => sOn_in) j (by omega)
      have nj := sOn_in (op := op) (p := (j : Int))
      have eS : sSm (sOn op) (j + 1) = sSm (sOn op) j + sOn op j := rfl
      have ev : (if ¬ (H 2 128 (j : Int) = 0) then (1 : Int) else 0) = sOn op j := by
        unfold sOn
        rw [sj.1]
      refine (rX9_openOnes_4 sS (by omega) (by rw [ev]; omega) (by rw [ev]; omega)).trans ?_
      rw [if_neg (by omega), ev, ← eS, show (j : Int) + 1 = ((j + 1 : Nat) : Int) by omega]
      exact ih (j + 1) (by omega)
  exact rX9_openOnes_0.trans (loop 4 0 (by omega))
/-- the class has dealt -/
theorem C_stFin (c : cAll h a) (x : ∀ (k : Nat) (r i : Int), ¬ (k = 2 ∧ 128 ≤ r ∧ r ≤ 133 ∧ 0 ≤ i ∧ i < 4) → h2 k r i = h k r i) (s : cSt h2 op wt ls lk) (hh : ∀ p, 0 ≤ p → p < 4 → h2 2 132 p = sHt op wt ls lk p) : cAll h2 (tSt a op wt ls lk) ∧ kR h h2 ∧ h2 4 0 0 = h 4 0 0 ∧ h2 5 0 0 = h 5 0 0 := by
  refine ⟨cAll_kL (fun k r i e f => x k r i (by omega)) (fun k r i hk => x k r i (fun z => by rw [z.1] at hk; cases hk)) eqL_st c (fun q u v => ?_) ?_, fun k r i u => x k r i (by omega), x _ _ _ (by omega), x _ _ _ (by omega)⟩
  · obtain ⟨r1, r2, r3, r4, r5⟩ := st_r (a := a) (op := op) (wt := wt) (ls := ls) (lk := lk) (p := q) ⟨u, v⟩
    have sq := s q u v
    refine ⟨⟨sq.1.trans r1.symm, sq.2.1.trans r2.symm, sq.2.2.1.trans r3.symm, sq.2.2.2.trans r4.symm⟩, (hh q u v).trans r5.symm⟩
  · obtain ⟨l1, l2, l3, l4⟩ := c.2.2.2.2.1
    have en : tSt a op wt ls lk 1559 282 0 = a 1559 282 0 := st_k (by omega)
    have ex : h2 1406 3 0 = h 1406 3 0 := x _ _ _ (by omega)
    refine ⟨by rw [en]; exact (x _ _ _ (by omega)).trans l1, by rw [en]; exact l2, by rw [ex]; exact l3, fun i u v => ?_⟩
    rw [en] at v
    rw [en, ex, x 2 134 _ (by omega), x 2 135 _ (by omega), st_k (by omega), st_k (by omega)]
    exact l4 i u v
theorem iG_st (g : iG a) : iG (tSt a op wt ls lk) := iG_L eqL_st g
theorem iH_st (i : iH a) (b : stB op wt ls lk) (ho : ∃ p, 0 ≤ p ∧ p < 4 ∧ ¬ op p = 0) (room : sSm (sN op ls lk) 4 ≤ 24) : iH (tSt a op wt ls lk) := by
  obtain ⟨i1, i2, i3, i4, i5, i6, i7⟩ := i
  have R : ∀ r : Int, ¬ ((289 ≤ r ∧ r ≤ 292) ∨ r = 310) → tSt a op wt ls lk 2 r = a 2 r := fun r n => funext (fun i => st_k (fun z => n z.2))
  have S : ∀ q : Int, 0 ≤ q → q < 4 → tSt a op wt ls lk 2 289 q = op q ∧ tSt a op wt ls lk 2 290 q = wt q ∧ tSt a op wt ls lk 2 291 q = ls q ∧ tSt a op wt ls lk 2 292 q = lk q ∧ tSt a op wt ls lk 2 310 q = sHt op wt ls lk q := fun q u v => st_r ⟨u, v⟩
  unfold iH
  rw [R 334 (by decide), R 335 (by decide), R 329 (by decide), R 327 (by decide), R 284 (by decide), R 283 (by decide), st_k (k := 1559) (by omega), st_k (k := 1504) (by omega)]
  refine ⟨fun q u v => ?_, ?_, fun q u v => ?_, ?_, i5, i6, i7⟩
  · obtain ⟨r1, r2, r3, r4, r5⟩ := S q u v
    rw [r1, r2, r3, r4]
    exact b q u v
  · obtain ⟨q, u, v, w⟩ := ho
    exact ⟨q, u, v, by rw [(S q u v).1]; exact w⟩
  · obtain ⟨r1, r2, r3, r4, r5⟩ := S q u v
    have hq := sHt_in b ho room u v
    rw [r1, r5]
    exact hq
  · refine Int.le_trans (sSm_le (fun q u v => ?_)) room
    obtain ⟨r1, r2, r3, r4, r5⟩ := S q u v
    show (if tSt a op wt ls lk 2 289 q = 0 then 0 else if tSt a op wt ls lk 2 292 q = -1 then tSt a op wt ls lk 2 291 q else tSt a op wt ls lk 2 292 q) ≤ sN op ls lk q
    rw [r1, r3, r4]
    exact Int.le_refl _
theorem stB_op (b : stB op wt ls lk) {v : Int} (hv : v = 0 ∨ v = 1) : stB (ud op p v) wt ls lk := fun q u w => by
  obtain ⟨b1, b2, b3, b4⟩ := b q u w
  refine ⟨b1, b2, b3, ?_⟩
  unfold ud
  split
  · exact hv
  · exact b4
/-- open -/
noncomputable def kOp (a : vH) (p : Int) : Int := if 0 ≤ p ∧ p < 4 then (if a 2 289 p = 0 ∧ ¬ (24 < sSm (sN (ud (a 2 289) p 1) (a 2 291) (a 2 292)) 4) then 0 else 2) else 1
noncomputable def tO1 (a : vH) (p v : Int) : vH := tSt a (ud (a 2 289) p v) (a 2 290) (a 2 291) (a 2 292)
noncomputable def tOp (a : vH) (p : Int) : vH := if kOp a p = 0 then tO1 (th 0 a) p 1 else th (kOp a p) a
noncomputable def vOp (a : vH) (p : Int) : Int := tO1 (th 0 a) p 1 2 310 p
theorem kOp_0 : kOp a p = 0 ↔ (0 ≤ p ∧ p < 4) ∧ a 2 289 p = 0 ∧ ¬ (24 < sSm (sN (ud (a 2 289) p 1) (a 2 291) (a 2 292)) 4) := by
  unfold kOp
  by_cases z1 : 0 ≤ p ∧ p < 4
  · by_cases z2 : a 2 289 p = 0 ∧ ¬ (24 < sSm (sN (ud (a 2 289) p 1) (a 2 291) (a 2 292)) 4)
    · rw [if_pos z1, if_pos z2]; exact ⟨fun _ => ⟨z1, z2⟩, fun _ => rfl⟩
    · rw [if_pos z1, if_neg z2]; exact ⟨fun w => absurd w (by decide), fun w => absurd w.2 z2⟩
  · rw [if_neg z1]; exact ⟨fun w => absurd w (by decide), fun w => absurd w.1 z1⟩
theorem cSt_of (c : cAll h a) : cSt h (a 2 289) (a 2 290) (a 2 291) (a 2 292) := fun q u v => (c.2.2.2.1 q u v).1
theorem sN_ud {need : Int} (hn : need = if lk p = -1 then ls p else lk p) : sSm (ud (sN op ls lk) p need) 4 = sSm (sN (ud op p 1) ls lk) 4 := by
  have e : ∀ q, ud (sN op ls lk) p need q = sN (ud op p 1) ls lk q := fun q => by
    show (if q = p then need else sN op ls lk q) = (if (if q = p then (1 : Int) else op q) = 0 then 0 else if lk q = -1 then ls q else lk q)
    by_cases z : q = p
    · rw [if_pos z, if_pos z, if_neg (by decide), hn, z]
    · rw [if_neg z, if_neg z]; rfl
  rw [sSm_4, sSm_4, e, e, e, e]
theorem Cq_open (c : cAll h a) (g : iG a) (i : iH a) : cOut h (tOp a p) (kOp a p) (vOp a p) e2 (vcl mX12_open [(1, 3), (0, p)] h) := by
  have c0 := cAll_th (k := 0) c
  have sS := (cAll_sh c).2
  by_cases z1 : 0 ≤ p ∧ p < 4
  · have e0 := (rX12_open_0 (x1 := p) c.1).trans ((vret_n (C_chkPane.1 z1)).trans (rX12_open_5 c.1 sS (by omega) (by omega)))
    rw [C_isOpen c z1] at e0
    have bad : ∀ {X : Option (vR × vH)}, kOp a p = 2 → X = some (.inr "java/lang/IllegalStateException", vexc h) → cOut h (tOp a p) (kOp a p) (vOp a p) e2 X := by
      intro X ek eX
      unfold tOp
      rw [ek, if_neg (by decide)]
      exact cO_eq eX (cO_x (cAll_th c) cR_rf (by decide) rfl)
    by_cases z2 : a 2 289 p = 0
    · rw [if_pos z2, if_pos (show (0 : Int) = 0 from rfl)] at e0
      have st := cSt_of c
      have en := C_needOf st z1
      have bp := i.1 p z1.1 z1.2
      have enb : 0 ≤ fX9_needOf h p ∧ fX9_needOf h p ≤ 100 := by
        rw [en]
        split <;> omega
      have hr := C_hasRoom sS st i.1 z1 (need := fX9_needOf h p) enb
      rw [sN_ud en] at hr
      have hr2 : vcl mX9_hasRoomFor [(1, 127), (0, p)] h = _ := (rX9_hasRoomFor_0 sS (by omega) (by omega)).trans ((vret_v hr).trans (rX9_hasRoomFor_10 (by split <;> omega)))
      have e1 := e0.trans ((vret_v hr2).trans (rX12_open_25 c.1))
      by_cases z3 : 24 < sSm (sN (ud (a 2 289) p 1) (a 2 291) (a 2 292)) 4
      · rw [if_neg (not_not_intro z3), if_neg (not_not_intro rfl)] at e1
        exact bad (by unfold kOp; rw [if_pos z1, if_neg (fun w => w.2 z3)]) (e1.trans (vret_x (C_chkState.2 rfl) rfl))
      · rw [if_pos z3, if_pos (by decide)] at e1
        have k0 : kOp a p = 0 := kOp_0.mpr ⟨z1, z2, z3⟩
        unfold tOp
        rw [k0, if_pos rfl]
        have st0 := cSt_of c0
        have sS1 : shStack (vup h 2 128 p 1) := shStack_sx (sx_up rfl sx_rf) sS
        have st1 : cSt (vup h 2 128 p 1) (ud (th 0 a 2 289) p 1) (th 0 a 2 290) (th 0 a 2 291) (th 0 a 2 292) := fun q u v => by
          obtain ⟨q1, q2, q3, q4⟩ := st0 q u v
          refine ⟨?_, (vup_r (by decide)).trans q2, (vup_r (by decide)).trans q3, (vup_r (by decide)).trans q4⟩
          rw [vup_2]
          unfold ud
          rw [q1]
        have bt : stB (ud (th 0 a 2 289) p 1) (th 0 a 2 290) (th 0 a 2 291) (th 0 a 2 292) := stB_op (iH_th i).1 (Or.inr rfl)
        have ho : ∃ q, 0 ≤ q ∧ q < 4 ∧ ¬ ud (th 0 a 2 289) p 1 q = 0 := ⟨p, z1.1, z1.2, by unfold ud; rw [if_pos rfl]; decide⟩
        obtain ⟨h2, d1, d2, d3⟩ := C_deal sS1 st1 bt ho
        have so : vcl mX9_setOpen [(1, 127), (0, p), (0, 1)] h = some (.inl none, h2) := (rX9_setOpen_0 sS (by omega) (by omega) (by omega)).trans ((if_pos (by omega)).trans ((vret_n d1).trans rX9_setOpen_19))
        have x : ∀ (k : Nat) (r j : Int), ¬ (k = 2 ∧ 128 ≤ r ∧ r ≤ 133 ∧ 0 ≤ j ∧ j < 4) → h2 k r j = h k r j := fun k r j e => (d2 k r j (by omega)).trans (if_neg (by omega))
        obtain ⟨F1, F2⟩ := C_stFin c0 x (cSt_F d2 st1) d3
        refine cO_eq (e1.trans ((vret_n (C_chkState.1 (by decide))).trans ((rX12_open_36 c.1 sS).trans ((vret_n so).trans ((rX12_open_45 F1.1 (cAll_sh F1).2 (by omega) (by omega)).trans ?_))))) (cO_v F1 F2)
        rw [C_heightOf F1 z1]
        rfl
    · rw [if_neg z2, if_neg (show ¬ ((1 : Int) = 0) by decide)] at e0
      exact bad (by unfold kOp; rw [if_pos z1, if_neg (fun w => z2 w.1)]) (e0.trans (vret_x (C_chkState.2 rfl) rfl))
  · have k1 : kOp a p = 1 := by unfold kOp; rw [if_neg z1]
    unfold tOp
    rw [k1, if_neg (by decide)]
    exact cO_eq ((rX12_open_0 c.1).trans (vret_x (C_chkPane.2 z1) rfl)) (cO_x (cAll_th c) cR_rf (by decide) rfl)
theorem iX_open (g : iG a) (i : iH a) : iG (tOp a p) ∧ iH (tOp a p) := by
  unfold tOp
  by_cases z : kOp a p = 0
  · obtain ⟨z1, z2, z3⟩ := kOp_0.mp z
    rw [if_pos z]
    have e : ∀ r : Int, th 0 a 2 r = a 2 r := fun r => funext (fun _ => vup_k (by decide))
    refine ⟨iG_st (iG_tk g), iH_st (iH_th i) (stB_op (iH_th i).1 (Or.inr rfl)) ⟨p, z1.1, z1.2, by unfold ud; rw [if_pos rfl]; decide⟩ ?_⟩
    rw [e, e, e]
    omega
  · rw [if_neg z]
    exact ⟨iG_tk g, iH_th i⟩
end STC

