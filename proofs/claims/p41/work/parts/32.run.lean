/-- WHAT THE PURE MACHINE SAYS, THE MACHINE DOES -/
theorem snd_run {l : Launch} (hst : l.stackTraces = false) {D : va_G} {cA : Nat → ClassId} {base t0 b0 L0 : Nat} {xs : Nat → Int32} (hL0 : L0 ≤ 100000) : ∀ n, SndW l D cA base t0 b0 L0 xs n := by
  intro n
  induction n with
  | zero => intro M p e R s m args below meth c hM C pc L S h h' r ev; cases ev
  | succ n ih =>
    intro M p e R s m args below meth c hM C pc L S h h' r ev hxt o H locs cells slots ls ad X hcc hss n0 ad0 hn0 hex0
    have ev : vstep (vev n) M pc L S h = some (r, h') := ev
    unfold vstep at ev
    obtain ⟨x1, x2, x3, x4, x5, x6, x7⟩ := id X
    obtain ⟨hx, hb, hrt, hml, hown, hts, hlk, hnm, -, hfr, hlo, -, hK, hv⟩ := id C
    split at ev
    · cases ev
    · rename_i r1 ha
      cases ev
      obtain ⟨ig, k, hd, hk, ha⟩ := vact_dec ha
      rcases act_cls ha with ⟨q2, z⟩ | ⟨z, e1, hS, z2, hr⟩ | ⟨z, e1, hS, z2, hr⟩ | ⟨e1, hS, z2, hr⟩ | ⟨k2, E, q2, e1, hx9, ht, z2, ho⟩ | ⟨k2, y, b, rest, -, -, hdr, -, z2, -⟩ | ⟨k2, y, b, rest, -, -, hdr, -, -, z2, -⟩ | ⟨k2, y, -, -, -, -, z2, -⟩
      · cases z
      · cases z2
        subst e1; subst hS
        have hk : k = 1 := hk
        subst hk
        have ec : R.cells = cells := by omega
        have es : R.slots = slots := by omega
        rw [ec, es]
        have hq : ∀ t : State, t.heap = H → s.WarmedH t.vm → Qg D cA base n0 ad0 (.inl (some (0, z))) h args s (.returned (some (.int (vi32 z)))) t := fun t ht hW => ⟨some (0, z), rfl, ⟨ad, hex0, rfl, by rw [ht]; exact x1, x2⟩, x3.F ht⟩
        rcases hr with hr | ⟨hr, hz⟩
        · exact vx_ret (W.iret hx hb (hrt.trans hr) hq x3.2.2 hd hlk)
        · refine vx_ret (W.zret hx hb (hrt.trans hr) ?_ hq x3.2.2 hd hlk)
          rcases hz with hz | hz
          · subst hz; rfl
          · subst hz; rfl
      · cases z2
        subst e1; subst hS
        have hk : k = 1 := hk
        subst hk
        have ec : R.cells = cells := by omega
        have es : R.slots = slots := by omega
        rw [ec, es]
        obtain ⟨rt, e9, hrt2⟩ := vobj_is hr
        refine vx_ret (W.aret (v := rv ad (1, z)) hx hb (hrt.trans e9) hrt2 ?_ (fun t ht hW => ⟨some (1, z), rfl, ⟨ad, hex0, rfl, by rw [ht]; exact x1, x2⟩, x3.F ht⟩) x3.2.2 hd hlk)
        by_cases hz : z = 0
        · subst hz; exact Or.inl rfl
        · exact Or.inr ⟨_, rv_ref hz⟩
      · cases z2
        subst e1; subst hS
        have hk : k = 1 := hk
        subst hk
        have ec : R.cells = cells := by omega
        have es : R.slots = slots := by omega
        rw [ec, es]
        exact vx_ret (W.vret hx hb (hrt.trans hr) (fun t ht hW => ⟨none, rfl, ⟨ad, hex0, rfl, by rw [ht]; exact x1, x2⟩, x3.F ht⟩) x3.2.2 hd hlk)
      · cases z2
        exact snd_throw C X hx9 ht ho hcc hss hex0 hxt
      · cases z2
      · cases z2
      · cases z2
    · rename_i q ha
      obtain ⟨ig, k, hd, hk, ha⟩ := vact_dec ha
      obtain ⟨o2, l2, -⟩ := act_ok hL0 o ha
      obtain ⟨a1, a2, a3⟩ := ev_ok hL0 n ev o2
      have c1 := l2.2.1
      have c2 := l2.2.2
      have c3 := a2.2.1
      have c4 := a2.2.2
      refine snd_next hL0 C o hd hk ha X (by omega) (by omega) fun H' locs' ls' ad' cells' slots' ec es hex X' => ?_
      exact ih M p e R s m args below meth c hM C q.1 q.2.1 q.2.2.1 q.2.2.2 h' r ev hxt o2 H' locs' cells' slots' ls' ad' X' (by omega) (by omega) n0 ad0 (by have := l2.1; omega) (ext_trans hex0 hn0 hex)
    · rename_i q ha
      obtain ⟨ig, k, hd, hk, ha⟩ := vact_dec ha
      rcases act_cls ha with ⟨q2, z⟩ | ⟨z, e1, hS, z2, hr⟩ | ⟨z, e1, hS, z2, hr⟩ | ⟨e1, hS, z2, hr⟩ | ⟨k2, E, q2, e1, hx9, ht, z2, ho⟩ | ⟨k2, y, b, rest, e1, hy, hdr, hk2, z2, hc⟩ | ⟨k2, y, b, rest, e1, hy, hdr, hb0, hk2, z2, hc⟩ | ⟨k2, y, e1, hy, hlt, hk2, z2, hc⟩
      · cases z
      · cases z2
      · cases z2
      · cases z2
      · cases z2
      · cases z2
        subst e1
        have hk : k = 3 := hk
        subst hk
        exact snd_virt hst ih hL0 hM C X o hy hd hdr hk2 hc ev hxt hcc hss hn0 hex0
      · cases z2
        subst e1
        have hk : k = 3 := hk
        subst hk
        exact snd_spec hst ih hL0 hM C X o hy hd hdr hb0 hk2 hc ev hxt hcc hss hn0 hex0
      · cases z2
        subst e1
        have hk : k = 3 := hk
        subst hk
        exact snd_stat hst ih hL0 hM C X o hy hd hlt hk2 hc ev hxt hcc hss hn0 hex0
