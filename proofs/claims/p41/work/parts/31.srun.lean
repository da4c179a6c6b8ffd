theorem wsM_okw {y : vM} (g : okm y) : ∀ w ∈ wsM y, okw w := by
  intro w hw
  unfold wsM at hw
  obtain ⟨-, g2, -⟩ := g
  split at hw
  · rename_i hh
    rcases List.mem_cons.mp hw with q | q
    · subst q
      rcases g2 with z | z
      · exact z.2
      · exact absurd hh z.1
    · exact TWg_ok q
  · rename_i hh
    rcases List.mem_cons.mp hw with q | q
    · subst q
      rcases g2 with z | z
      · exact absurd z.1 hh
      · exact z.2
    · exact TWg_ok q
/-- behind a call, what the rest of the run keeps -/
theorem vret_ok {L0 : Nat} (hL0 : L0 ≤ 100000) {xs : Nat → Int32} {n : Nat} {m : vM} {pc : Nat} {L rest : List vv} {h2 h' : vH} {r2 r : vR} (e : vret (vev n) m pc L rest (some (r2, h2)) = some (r, h')) (b1 : hok L0 xs h2) (b3 : okr (h2 3 0 0) r2) (o2 : okS L0 xs h2 L rest) : hok L0 xs h' ∧ hle h2 h' ∧ okr (h' 3 0 0) r := by
  unfold vret at e
  split at e
  · rename_i z; cases z
  · rename_i v h3 z
    cases z
    have o3 : okS L0 xs h2 L (v.toList ++ rest) := by
      cases v with
      | none => exact o2
      | some v => exact ok_push o2 b3
    exact ev_ok hL0 n e o3
  · rename_i E h3 z
    cases z
    split at e
    · cases e; exact ⟨b1, hle_refl, trivial⟩
    · split at e
      · split at e
        · split at e
          · exact ev_ok hL0 n e (ok_set ⟨b1, o2.2.1, fun v hv => by cases hv⟩ trivial)
          · cases e
        · split at e
          · exact ev_ok hL0 n e (ok_set ⟨b1, o2.2.1, fun v hv => by cases hv⟩ trivial)
          · cases e
        · cases e
      · cases e
theorem vobj_is {r : Option FieldType} (h : vobj r = true) : ∃ rt, r = some rt ∧ ((∃ n, rt = .object n) ∨ ∃ t, rt = .array t) := by
  unfold vobj at h
  split at h
  · exact ⟨_, rfl, Or.inl ⟨_, rfl⟩⟩
  · exact ⟨_, rfl, Or.inr ⟨_, rfl⟩⟩
  · cases h
section SRUN
variable {l : Launch} {D : va_G} {cA : Nat → ClassId} {base t0 b0 L0 : Nat} {xs : Nat → Int32} {p : Program} {e : Env} {R : Room} {s : State} {m : MethodId} {args : Array Value} {below : List Frame} {meth : Method} {c : Code} {M : vM}
variable {H : Heap} {locs : List Loc} {cells slots : Nat} {pc : Nat} {ls : Array Slot} {ad : Nat → Nat} {h : vH} {L S : List vv}
theorem snd_call {n : Nat} (hst : l.stackTraces = false) (ih : SndW l D cA base t0 b0 L0 xs n) (hL0 : L0 ≤ 100000) (hM : ∀ x ∈ vmH M, okw (.classLink (vcn (vmC M)) x.2.2.2.1 x.2.2.2.2) ∧ okw (.castable x.2.2.2.2 x.2.2.2.2) ∧ x.2.2.2.1 ≠ 0 ∧ x.2.2.2.2 ∈ vexh) (C : Cx l D cA base t0 b0 L0 xs p R s m args meth c M) (X : Rl D cA base t0 b0 s M H locs ls ad h L)
    (o : okS L0 xs h L S) {y : vM} (g : okm y) {as rest : List vv} (hsa : ∀ v ∈ as, v ∈ S) (hsr : ∀ v ∈ rest, v ∈ S) (hc : ccall M y as rest) {r : vR} {h' : vH} (ev : vret (vev n) M pc L rest (vev n y 0 (vent (vmL y) as) [] h) = some (r, h')) (hxt : c.exceptionTable.toList = tableOf ((vmH M).map fun x => (x.1, x.2.1, x.2.2.1, x.2.2.2.1)) ∨ (vmH M = [] ∧ ∃ v, r = .inl v))
    (hcc : (R.cells : Int) = cells + (h' 4 0 0 - h 4 0 0)) (hss : (R.slots : Int) = slots + (h' 5 0 0 - h 5 0 0)) {n0 : Int} {ad0 : Nat → Nat} (hn0 : n0 ≤ h 3 0 0) (hex0 : ext n0 ad0 ad)
    (kr : ∀ (mc ms : Nat) (Pc : Array Value → State → Prop) (Qc : Array Value → State → Outcome → State → Prop) (XC : String → State → State → Prop), FrameBlind Pc → (∀ U : State, U.heap = H → s.WarmedH U.vm → Pc (as.map (rv ad)).toArray U) → vx_Met l (vmY y) (wsM y) { frames := vmF y, cells := mc, slots := ms, locals := vmW y } Pc Qc XC mc ms (fun q => base ≤ q) → cells + mc ≤ R.cells ∧ slots + ms ≤ R.slots → vx_Run p l e R s m args below meth c H locs cells slots mc ms (F0 m pc ls (S.map (rv ad))) (rest.map (rv ad)) (Qc (as.map (rv ad)).toArray) XC (fun q => base ≤ q)) :
    W p l e R s m args below meth c H locs cells slots (vx_MQ below (Qg D cA base n0 ad0 r h') (Xg D cA base n0 ad0 r h') args s R.cells R.slots (fun q => base ≤ q)) (F0 m pc ls (S.map (rv ad))) := by
  cases hcy : vev n y 0 (vent (vmL y) as) [] h with
  | none => rw [hcy] at ev; cases ev
  | some z =>
    rw [hcy] at ev
    obtain ⟨r2, h2⟩ := z
    have ok2 := ev_ok hL0 n hcy (ok_ent o.1 fun v hv => o.2.2 v (hsa v hv))
    have oS : okS L0 xs h L rest := ⟨o.1, o.2.1, fun v hv => o.2.2 v (hsr v hv)⟩
    have ok3 := vret_ok hL0 ev ok2.1 ok2.2.2 (ok_heap oS ok2.1 ok2.2.1.1)
    obtain ⟨x1, x2, x3, x4, x5, x6, x7⟩ := id X
    obtain ⟨hx, hb, hrt, hml, hown, hts, hlk, hnm, -, hfr, hlo, -, hK, hv⟩ := id C
    have c1 := ok2.2.1.2.1
    have c2 := ok2.2.1.2.2
    have c3 := ok3.2.1.2.1
    have c4 := ok3.2.1.2.2
    have hmc : (((h2 4 0 0 - h 4 0 0).toNat : Nat) : Int) = h2 4 0 0 - h 4 0 0 := Int.toNat_of_nonneg (by omega)
    have hms : (((h2 5 0 0 - h 5 0 0).toNat : Nat) : Int) = h2 5 0 0 - h 5 0 0 := Int.toNat_of_nonneg (by omega)
    have met := snd_met hst ih g hcy o.1 (fun v hv => o.2.2 v (hsa v hv)) hc.2.2.2 x6 x7 hmc hms
    refine snd_back ih hL0 hM C hn0 hex0 oS ok2 ev hxt X hcc hss hmc hms (kr _ _ _ _ _ Pcg_blind ?_ met ⟨by omega, by omega⟩)
    intro U hU hW
    refine ⟨rfl, by rw [hU]; exact x1, x2, ?_, ?_⟩
    · exact va_K.moved (u := s) (U := U) hW.alike hK
    · rw [hU]
      exact vst_warm hW (vst_kept hv x3.1 x3.2.1)
theorem snd_virt {n : Nat} (hst : l.stackTraces = false) (ih : SndW l D cA base t0 b0 L0 xs n) (hL0 : L0 ≤ 100000) (hM : ∀ x ∈ vmH M, okw (.classLink (vcn (vmC M)) x.2.2.2.1 x.2.2.2.2) ∧ okw (.castable x.2.2.2.2 x.2.2.2.2) ∧ x.2.2.2.1 ≠ 0 ∧ x.2.2.2.2 ∈ vexh) (C : Cx l D cA base t0 b0 L0 xs p R s m args meth c M) (X : Rl D cA base t0 b0 s M H locs ls ad h L)
    (o : okS L0 xs h L S) {k : Nat} {y : Nat × Nat × Nat × vM} (hy : vrs (vmC M) k = some y) {b : Int} {rest : List vv} (d : decode (vmB M) pc = .ok (.invokevirtual k, 3)) (hdr : S.drop y.2.2.1 = (1, b) :: rest) (hk : y.1 < 2 ∧ h 0 b 0 = 20 + (y.2.1 : Int)) (hc : ccall M y.2.2.2 ((1, b) :: (S.take y.2.2.1).reverse) rest) {r : vR} {h' : vH} (ev : vret (vev n) M pc L rest (vev n y.2.2.2 0 (vent (vmL y.2.2.2) ((1, b) :: (S.take y.2.2.1).reverse)) [] h) = some (r, h')) (hxt : c.exceptionTable.toList = tableOf ((vmH M).map fun x => (x.1, x.2.1, x.2.2.1, x.2.2.2.1)) ∨ (vmH M = [] ∧ ∃ v, r = .inl v))
    (hcc : (R.cells : Int) = cells + (h' 4 0 0 - h 4 0 0)) (hss : (R.slots : Int) = slots + (h' 5 0 0 - h 5 0 0)) {n0 : Int} {ad0 : Nat → Nat} (hn0 : n0 ≤ h 3 0 0) (hex0 : ext n0 ad0 ad) :
    W p l e R s m args below meth c H locs cells slots (vx_MQ below (Qg D cA base n0 ad0 r h') (Xg D cA base n0 ad0 r h') args s R.cells R.slots (fun q => base ≤ q)) (F0 m pc ls (S.map (rv ad))) := by
  have hk1 := hk.1
  obtain ⟨hw, hsd, hg9⟩ := tg_vrs hy
  have sd := of_decide_eq_true hsd
  have g : okm y.2.2.2 := by
    rcases hg9 with z | z | z | z | z
    · omega
    · omega
    · omega
    · omega
    · exact z
  rcases sd with z | z | z | z | ⟨s1, s2, s3, s4, s5, s6, s7⟩
  · omega
  · omega
  · omega
  · omega
  obtain ⟨hx, hb, hrt, hml, hown, hts, hlk, hnm, -, hfr, hlo, -, hK, hv⟩ := id C
  have x4 := X.2.2.2.1
  have hws : ∀ w ∈ wsM y.2.2.2, ∀ (a' : Array Value) (U : State), s.WarmedH U.vm → w.before a' U = true := fun w hw a' U hW => gok_warm (wsM_okw g w hw).2 hW (hts _ (wsM_okw g w hw))
  have hlen : ∀ sig, parseMethodDescriptor (vmY y.2.2.2).desc = some sig → y.2.2.1 = sig.parameters.length := fun sig q => by
    rw [q] at s2
    exact (Option.some.inj s2).symm
  have hh : vmH y.2.2.2 = [] := by
    rcases s6 with z | z
    · omega
    · exact List.length_eq_zero_iff.mp z
  have hb0 : ¬ b = 0 := by
    have := o.1.2.1 b (by rw [hk.2]; omega)
    omega
  have hln : ((S.take y.2.2.1).reverse.map (rv ad)).length = y.2.2.1 := by
    have : y.2.2.1 < S.length := by
      have e9 := congrArg List.length hdr
      rw [List.length_drop, List.length_cons] at e9
      omega
    rw [List.length_map, List.length_reverse, List.length_take]
    omega
  have eb : rv ad (1, b) = .ref (ad b.toNat) := rv_ref hb0
  have hsub : ∀ v ∈ (1, b) :: rest, v ∈ S := fun v hv => List.mem_of_mem_drop (by rw [hdr]; exact hv)
  have hsa : ∀ v ∈ (1, b) :: (S.take y.2.2.1).reverse, v ∈ S := fun v hv => by
    rcases List.mem_cons.mp hv with e9 | hv
    · rw [e9]; exact hsub _ List.mem_cons_self
    · exact List.mem_of_mem_take (List.mem_reverse.mp hv)
  have eas : ((1, b) :: (S.take y.2.2.1).reverse).map (rv ad) = .ref (ad b.toNat) :: (S.take y.2.2.1).reverse.map (rv ad) := by rw [List.map_cons, eb]
  have hstk : S.map (rv ad) = ((S.take y.2.2.1).reverse.map (rv ad)).reverse ++ .ref (ad b.toNat) :: rest.map (rv ad) := by rw [drop_shape hdr, eb]
  obtain ⟨s41, s42⟩ := s4 hk1
  have hcell := wo_cell X.1 hK o.1 s42 hk.2
  rw [← s41] at hcell
  refine snd_call hst ih hL0 hM C X o g hsa (fun v hv => hsub v (List.mem_cons_of_mem _ hv)) hc ev hxt hcc hss hn0 hex0 fun mc ms Pc Qc XC hbl hpre met hf => ?_
  rw [eas] at hpre ⊢
  have h01 : y.1 = 0 ∨ y.1 = 1 := by omega
  rcases h01 with h0 | h0
  · rw [h0] at hw
    have w1 := hts _ (hw _ List.mem_cons_self)
    have w2 := hts _ (hw _ (List.mem_cons_of_mem _ List.mem_cons_self))
    have w3 := hts _ (hw _ (List.mem_cons_of_mem _ (List.mem_cons_of_mem _ List.mem_cons_self)))
    have w4 := hts _ (hw _ (List.mem_cons_of_mem _ (List.mem_cons_of_mem _ (List.mem_cons_of_mem _ List.mem_cons_self))))
    refine vx_runV (cc := vmB M) (nL := vmL M) (Ts := []) (own := vcn (vmC M)) (C := (vmY y.2.2.2).cls) (bytes := vmB y.2.2.2) (maxL := vmL y.2.2.2) (ret := vmR y.2.2.2) (n := y.2.2.1) (index := k) ⟨hx, hb, hml, hown, fun w hw => nomatch hw⟩ met ⟨⟨rfl, rfl, ?_, ?_, hws, (by unfold wsM; rw [if_pos hh]; exact List.mem_cons_self), ?_, w4, s3, hlen, w1⟩, w2, w3⟩ ⟨hbl, hcell, hpre⟩ rfl hln x4.1 hstk ?_ d hf
    · rw [hfr]; exact hc.2.1
    · rw [hlo]; exact hc.2.2.1
    · exact hts _ (wsM_okw g _ (by unfold wsM; rw [if_pos hh]; exact List.mem_cons_self))
    · show 2 * 0 + ((rest.map (rv ad)).map fun v => v.category).sum ≤ 8
      rw [cat_sum]
      have := hc.1
      omega
  · rw [h0] at hw
    have w1 := hts _ (hw _ List.mem_cons_self)
    have w2 := hts _ (hw _ (List.mem_cons_of_mem _ List.mem_cons_self))
    have w3 := hts _ (hw _ (List.mem_cons_of_mem _ (List.mem_cons_of_mem _ List.mem_cons_self)))
    have w4 := hts _ (hw _ (List.mem_cons_of_mem _ (List.mem_cons_of_mem _ (List.mem_cons_of_mem _ List.mem_cons_self))))
    refine vx_runVN (cc := vmB M) (nL := vmL M) (Ts := []) (own := vcn (vmC M)) (host := "PaneLayers") (C := (vmY y.2.2.2).cls) (bytes := vmB y.2.2.2) (maxL := vmL y.2.2.2) (ret := vmR y.2.2.2) (n := y.2.2.1) (index := k) ⟨hx, hb, hml, hown, fun w hw => nomatch hw⟩ met ⟨⟨⟨rfl, rfl, ?_, ?_, hws, (by unfold wsM; rw [if_pos hh]; exact List.mem_cons_self)⟩, ?_, w4, s3, hlen, w1⟩, w2, w3⟩ ⟨hbl, hcell, hpre⟩ rfl hln x4.1 hstk ?_ d hf
    · rw [hfr]; exact hc.2.1
    · rw [hlo]; exact hc.2.2.1
    · exact hts _ (wsM_okw g _ (by unfold wsM; rw [if_pos hh]; exact List.mem_cons_self))
    · show 2 * 0 + ((rest.map (rv ad)).map fun v => v.category).sum ≤ 8
      rw [cat_sum]
      have := hc.1
      omega
theorem snd_spec {n : Nat} (hst : l.stackTraces = false) (ih : SndW l D cA base t0 b0 L0 xs n) (hL0 : L0 ≤ 100000) (hM : ∀ x ∈ vmH M, okw (.classLink (vcn (vmC M)) x.2.2.2.1 x.2.2.2.2) ∧ okw (.castable x.2.2.2.2 x.2.2.2.2) ∧ x.2.2.2.1 ≠ 0 ∧ x.2.2.2.2 ∈ vexh) (C : Cx l D cA base t0 b0 L0 xs p R s m args meth c M) (X : Rl D cA base t0 b0 s M H locs ls ad h L)
    (o : okS L0 xs h L S) {k : Nat} {y : Nat × Nat × Nat × vM} (hy : vrs (vmC M) k = some y) {b : Int} {rest : List vv} (d : decode (vmB M) pc = .ok (.invokespecial k, 3)) (hdr : S.drop y.2.2.1 = (1, b) :: rest) (hb0 : ¬ b = 0) (hk1 : y.1 = 4 ∨ y.1 = 5) (hc : ccall M y.2.2.2 ((1, b) :: (S.take y.2.2.1).reverse) rest) {r : vR} {h' : vH} (ev : vret (vev n) M pc L rest (vev n y.2.2.2 0 (vent (vmL y.2.2.2) ((1, b) :: (S.take y.2.2.1).reverse)) [] h) = some (r, h')) (hxt : c.exceptionTable.toList = tableOf ((vmH M).map fun x => (x.1, x.2.1, x.2.2.1, x.2.2.2.1)) ∨ (vmH M = [] ∧ ∃ v, r = .inl v))
    (hcc : (R.cells : Int) = cells + (h' 4 0 0 - h 4 0 0)) (hss : (R.slots : Int) = slots + (h' 5 0 0 - h 5 0 0)) {n0 : Int} {ad0 : Nat → Nat} (hn0 : n0 ≤ h 3 0 0) (hex0 : ext n0 ad0 ad) :
    W p l e R s m args below meth c H locs cells slots (vx_MQ below (Qg D cA base n0 ad0 r h') (Xg D cA base n0 ad0 r h') args s R.cells R.slots (fun q => base ≤ q)) (F0 m pc ls (S.map (rv ad))) := by
  obtain ⟨hw, hsd, hg9⟩ := tg_vrs hy
  have sd := of_decide_eq_true hsd
  have g : okm y.2.2.2 := by
    rcases hg9 with z | z | z | z | z
    · omega
    · omega
    · omega
    · omega
    · exact z
  rcases sd with z | z | z | z | ⟨s1, s2, s3, s4, s5, s6, s7⟩
  · omega
  · omega
  · omega
  · omega
  obtain ⟨hx, hb, hrt, hml, hown, hts, hlk, hnm, -, hfr, hlo, -, hK, hv⟩ := id C
  have x4 := X.2.2.2.1
  have hws : ∀ w ∈ wsM y.2.2.2, ∀ (a' : Array Value) (U : State), s.WarmedH U.vm → w.before a' U = true := fun w hw a' U hW => gok_warm (wsM_okw g w hw).2 hW (hts _ (wsM_okw g w hw))
  have hlen : ∀ sig, parseMethodDescriptor (vmY y.2.2.2).desc = some sig → y.2.2.1 = sig.parameters.length := fun sig q => by
    rw [q] at s2
    exact (Option.some.inj s2).symm
  have hh : vmH y.2.2.2 = [] := by
    rcases s6 with z | z
    · omega
    · exact List.length_eq_zero_iff.mp z
  have hln : ((S.take y.2.2.1).reverse.map (rv ad)).length = y.2.2.1 := by
    have : y.2.2.1 < S.length := by
      have e9 := congrArg List.length hdr
      rw [List.length_drop, List.length_cons] at e9
      omega
    rw [List.length_map, List.length_reverse, List.length_take]
    omega
  have eb : rv ad (1, b) = .ref (ad b.toNat) := rv_ref hb0
  have hsub : ∀ v ∈ (1, b) :: rest, v ∈ S := fun v hv => List.mem_of_mem_drop (by rw [hdr]; exact hv)
  have hsa : ∀ v ∈ (1, b) :: (S.take y.2.2.1).reverse, v ∈ S := fun v hv => by
    rcases List.mem_cons.mp hv with e9 | hv
    · rw [e9]; exact hsub _ List.mem_cons_self
    · exact List.mem_of_mem_take (List.mem_reverse.mp hv)
  have eas : ((1, b) :: (S.take y.2.2.1).reverse).map (rv ad) = .ref (ad b.toNat) :: (S.take y.2.2.1).reverse.map (rv ad) := by rw [List.map_cons, eb]
  have hstk : S.map (rv ad) = ((S.take y.2.2.1).reverse.map (rv ad)).reverse ++ .ref (ad b.toNat) :: rest.map (rv ad) := by rw [drop_shape hdr, eb]
  obtain ⟨s51, s52⟩ := s5 hk1
  refine snd_call hst ih hL0 hM C X o g hsa (fun v hv => hsub v (List.mem_cons_of_mem _ hv)) hc ev hxt hcc hss hn0 hex0 fun mc ms Pc Qc XC hbl hpre met hf => ?_
  rw [eas] at hpre ⊢
  rcases hk1 with h0 | h0
  · rw [h0] at hw
    have w1 := hts _ (hw _ List.mem_cons_self)
    have w2 := hts _ (hw _ (List.mem_cons_of_mem _ List.mem_cons_self))
    have w4 := hts _ (hw _ (List.mem_cons_of_mem _ (List.mem_cons_of_mem _ List.mem_cons_self)))
    refine vx_runI (cc := vmB M) (nL := vmL M) (Ts := []) (own := vcn (vmC M)) (bytes := vmB y.2.2.2) (maxL := vmL y.2.2.2) (n := y.2.2.1) (index := k) ⟨hx, hb, hml, hown, fun w hw => nomatch hw⟩ met ⟨⟨rfl, rfl, ?_, ?_, hws, (by unfold wsM; rw [if_pos hh, s52]; exact List.mem_cons_self), ?_, w4, s3, hlen, w1⟩, s51, w2⟩ ⟨hbl, hpre⟩ rfl hln x4.1 hstk ?_ d hf
    · rw [hfr]; exact hc.2.1
    · rw [hlo]; exact hc.2.2.1
    · exact hts _ (wsM_okw g _ (by unfold wsM; rw [if_pos hh, s52]; exact List.mem_cons_self))
    · show 2 * 0 + ((rest.map (rv ad)).map fun v => v.category).sum ≤ 8
      rw [cat_sum]
      have := hc.1
      omega
  · rw [h0] at hw
    have w1 := hts _ (hw _ List.mem_cons_self)
    have w2 := hts _ (hw _ (List.mem_cons_of_mem _ List.mem_cons_self))
    have w4 := hts _ (hw _ (List.mem_cons_of_mem _ (List.mem_cons_of_mem _ List.mem_cons_self)))
    refine vx_runIN (cc := vmB M) (nL := vmL M) (Ts := []) (own := vcn (vmC M)) (host := "PaneLayers") (bytes := vmB y.2.2.2) (maxL := vmL y.2.2.2) (n := y.2.2.1) (index := k) ⟨hx, hb, hml, hown, fun w hw => nomatch hw⟩ met ⟨⟨⟨rfl, rfl, ?_, ?_, hws, (by unfold wsM; rw [if_pos hh, s52]; exact List.mem_cons_self)⟩, ?_, w4, s3, hlen, w1⟩, s51, w2⟩ ⟨hbl, hpre⟩ rfl hln x4.1 hstk ?_ d hf
    · rw [hfr]; exact hc.2.1
    · rw [hlo]; exact hc.2.2.1
    · exact hts _ (wsM_okw g _ (by unfold wsM; rw [if_pos hh, s52]; exact List.mem_cons_self))
    · show 2 * 0 + ((rest.map (rv ad)).map fun v => v.category).sum ≤ 8
      rw [cat_sum]
      have := hc.1
      omega
theorem snd_stat {n : Nat} (hst : l.stackTraces = false) (ih : SndW l D cA base t0 b0 L0 xs n) (hL0 : L0 ≤ 100000) (hM : ∀ x ∈ vmH M, okw (.classLink (vcn (vmC M)) x.2.2.2.1 x.2.2.2.2) ∧ okw (.castable x.2.2.2.2 x.2.2.2.2) ∧ x.2.2.2.1 ≠ 0 ∧ x.2.2.2.2 ∈ vexh) (C : Cx l D cA base t0 b0 L0 xs p R s m args meth c M) (X : Rl D cA base t0 b0 s M H locs ls ad h L)
    (o : okS L0 xs h L S) {k : Nat} {y : Nat × Nat × Nat × vM} (hy : vrs (vmC M) k = some y) (d : decode (vmB M) pc = .ok (.invokestatic k, 3)) (hlt : y.2.2.1 ≤ S.length) (hk1 : y.1 = 2 ∨ y.1 = 3 ∨ y.1 = 10) (hc : ccall M y.2.2.2 (S.take y.2.2.1).reverse (S.drop y.2.2.1)) {r : vR} {h' : vH} (ev : vret (vev n) M pc L (S.drop y.2.2.1) (vev n y.2.2.2 0 (vent (vmL y.2.2.2) (S.take y.2.2.1).reverse) [] h) = some (r, h')) (hxt : c.exceptionTable.toList = tableOf ((vmH M).map fun x => (x.1, x.2.1, x.2.2.1, x.2.2.2.1)) ∨ (vmH M = [] ∧ ∃ v, r = .inl v))
    (hcc : (R.cells : Int) = cells + (h' 4 0 0 - h 4 0 0)) (hss : (R.slots : Int) = slots + (h' 5 0 0 - h 5 0 0)) {n0 : Int} {ad0 : Nat → Nat} (hn0 : n0 ≤ h 3 0 0) (hex0 : ext n0 ad0 ad) :
    W p l e R s m args below meth c H locs cells slots (vx_MQ below (Qg D cA base n0 ad0 r h') (Xg D cA base n0 ad0 r h') args s R.cells R.slots (fun q => base ≤ q)) (F0 m pc ls (S.map (rv ad))) := by
  obtain ⟨hw, hsd, hg9⟩ := tg_vrs hy
  have sd := of_decide_eq_true hsd
  have g : okm y.2.2.2 := by
    rcases hg9 with z | z | z | z | z
    · omega
    · omega
    · omega
    · omega
    · exact z
  rcases sd with z | z | z | z | ⟨s1, s2, s3, s4, s5, s6, s7⟩
  · omega
  · omega
  · omega
  · omega
  obtain ⟨hx, hb, hrt, hml, hown, hts, hlk, hnm, -, hfr, hlo, -, hK, hv⟩ := id C
  have x4 := X.2.2.2.1
  have hws : ∀ w ∈ wsM y.2.2.2, ∀ (a' : Array Value) (U : State), s.WarmedH U.vm → w.before a' U = true := fun w hw a' U hW => gok_warm (wsM_okw g w hw).2 hW (hts _ (wsM_okw g w hw))
  have hlen : ∀ sig, parseMethodDescriptor (vmY y.2.2.2).desc = some sig → y.2.2.1 = sig.parameters.length := fun sig q => by
    rw [q] at s2
    exact (Option.some.inj s2).symm
  have hln : ((S.take y.2.2.1).reverse.map (rv ad)).length = y.2.2.1 := by
    rw [List.length_map, List.length_reverse, List.length_take]
    omega
  have hstk : S.map (rv ad) = ((S.take y.2.2.1).reverse.map (rv ad)).reverse ++ (S.drop y.2.2.1).map (rv ad) := by
    conv => lhs; rw [← List.take_append_drop y.2.2.1 S]
    rw [List.map_append, List.map_reverse, List.reverse_reverse]
  refine snd_call hst ih hL0 hM C X o g (fun v hv => List.mem_of_mem_take (List.mem_reverse.mp hv)) (fun v hv => List.mem_of_mem_drop hv) hc ev hxt hcc hss hn0 hex0 fun mc ms Pc Qc XC hbl hpre met hf => ?_
  have hcat : 2 * 0 + (((S.drop y.2.2.1).map (rv ad)).map fun v => v.category).sum ≤ 8 := by
    rw [cat_sum]
    have := hc.1
    omega
  rcases hk1 with h0 | h0 | h0
  · have hh : vmH y.2.2.2 = [] := by
      rcases s6 with z | z
      · omega
      · exact List.length_eq_zero_iff.mp z
    rw [h0] at hw
    have w1 := hts _ (hw _ List.mem_cons_self)
    have w2 := hts _ (hw _ (List.mem_cons_of_mem _ List.mem_cons_self))
    have w4 := hts _ (hw _ (List.mem_cons_of_mem _ (List.mem_cons_of_mem _ List.mem_cons_self)))
    refine vx_runS (cc := vmB M) (nL := vmL M) (Ts := []) (own := vcn (vmC M)) (bytes := vmB y.2.2.2) (maxL := vmL y.2.2.2) (ret := vmR y.2.2.2) (n := y.2.2.1) (index := k) ⟨hx, hb, hml, hown, fun w hw => nomatch hw⟩ met ⟨⟨rfl, rfl, ?_, ?_, hws, (by unfold wsM; rw [if_pos hh]; exact List.mem_cons_self), ?_, w4, s3, hlen, w1⟩, w2⟩ ⟨hbl, hpre⟩ rfl hln x4.1 hstk hcat d hf
    · rw [hfr]; exact hc.2.1
    · rw [hlo]; exact hc.2.2.1
    · exact hts _ (wsM_okw g _ (by unfold wsM; rw [if_pos hh]; exact List.mem_cons_self))
  · have hh : vmH y.2.2.2 = [] := by
      rcases s6 with z | z
      · omega
      · exact List.length_eq_zero_iff.mp z
    rw [h0] at hw
    have w1 := hts _ (hw _ List.mem_cons_self)
    have w2 := hts _ (hw _ (List.mem_cons_of_mem _ List.mem_cons_self))
    have w4 := hts _ (hw _ (List.mem_cons_of_mem _ (List.mem_cons_of_mem _ List.mem_cons_self)))
    refine vx_runSN (cc := vmB M) (nL := vmL M) (Ts := []) (own := vcn (vmC M)) (host := "PaneLayers") (bytes := vmB y.2.2.2) (maxL := vmL y.2.2.2) (ret := vmR y.2.2.2) (n := y.2.2.1) (index := k) ⟨hx, hb, hml, hown, fun w hw => nomatch hw⟩ met ⟨⟨⟨rfl, rfl, ?_, ?_, hws, (by unfold wsM; rw [if_pos hh]; exact List.mem_cons_self)⟩, ?_, w4, s3, hlen, w1⟩, w2, trivial⟩ ⟨hbl, hpre⟩ rfl hln x4.1 hstk hcat d hf
    · rw [hfr]; exact hc.2.1
    · rw [hlo]; exact hc.2.2.1
    · exact hts _ (wsM_okw g _ (by unfold wsM; rw [if_pos hh]; exact List.mem_cons_self))
  · have hh : ¬ vmH y.2.2.2 = [] := fun z => s7 h0 (by rw [z]; rfl)
    rw [h0] at hw
    have w1 := hts _ (hw _ List.mem_cons_self)
    have w2 := hts _ (hw _ (List.mem_cons_of_mem _ List.mem_cons_self))
    have w4 := hts _ (hw _ (List.mem_cons_of_mem _ (List.mem_cons_of_mem _ List.mem_cons_self)))
    refine vx_runSX (cc := vmB M) (nL := vmL M) (Ts := []) (own := vcn (vmC M)) (bytes := vmB y.2.2.2) (maxL := vmL y.2.2.2) (ret := vmR y.2.2.2) (n := y.2.2.1) (index := k) (hh := (vmH y.2.2.2).map fun x => (x.1, x.2.1, x.2.2.1, x.2.2.2.1)) ⟨hx, hb, hml, hown, fun w hw => nomatch hw⟩ met ⟨⟨rfl, rfl, ?_, ?_, hws, (by unfold wsM; rw [if_neg hh]; exact List.mem_cons_self)⟩, ?_, w4, s3, hlen, w1, w2⟩ ⟨hbl, hpre⟩ rfl hln x4.1 hstk hcat d hf
    · rw [hfr]; exact hc.2.1
    · rw [hlo]; exact hc.2.2.1
    · exact hts _ (wsM_okw g _ (by unfold wsM; rw [if_neg hh]; exact List.mem_cons_self))
end SRUN
