def TWg : List Cond := lw_tbl.filter gok
theorem TWg_mem {w : Cond} (h : okw w) : w ∈ TWg := List.mem_filter.mpr h
theorem TWg_ok {w : Cond} (h : w ∈ TWg) : okw w := List.mem_filter.mp h
def wsM (M : vM) : List Cond := if vmH M = [] then .code (vmY M) (vmB M) (vmL M) (vmR M) :: TWg else .codeWith (vmY M) (vmB M) (vmL M) (vmR M) ((vmH M).map fun x => (x.1, x.2.1, x.2.2.1, x.2.2.2.1)) :: TWg
/-- the end of a run: an answer, and the world behind it -/
def Qg (D : va_G) (cA : Nat → ClassId) (base : Nat) (n0 : Int) (ad0 : Nat → Nat) (r : vR) (h' : vH) : Array Value → State → Outcome → State → Prop := fun _ st oc t =>
  ∃ v : Option vv, r = .inl v ∧ (∃ ad' : Nat → Nat, ext n0 ad0 ad' ∧ oc = .returned (v.map (rv ad')) ∧ va_P D vwCl (wo cA ad' h') t.heap ∧ va_D (fun q => base ≤ q) (wo cA ad' h')) ∧ va_F (fun q => base ≤ q) st t
def Xg (D : va_G) (cA : Nat → ClassId) (base : Nat) (n0 : Int) (ad0 : Nat → Nat) (r : vR) (h' : vH) : String → State → State → Prop := fun E st t =>
  r = .inr E ∧ (∃ ad' : Nat → Nat, ext n0 ad0 ad' ∧ va_P D vwCl (wo cA ad' h') t.heap ∧ va_D (fun q => base ≤ q) (wo cA ad' h')) ∧ va_F (fun q => base ≤ q) st t
def Pcg (D : va_G) (cA : Nat → ClassId) (base t0 b0 L0 : Nat) (xs : Nat → Int32) (ad : Nat → Nat) (as : List vv) (h : vH) : Array Value → State → Prop := fun v U =>
  v = (as.map (rv ad)).toArray ∧ va_P D vwCl (wo cA ad h) U.heap ∧ va_D (fun q => base ≤ q) (wo cA ad h) ∧ va_K D vwCl (ktys cA) U ∧ vst base t0 b0 L0 xs U U.heap
theorem vst_same {base t0 b0 L0 : Nat} {xs : Nat → Int32} {u U : State} {H : Heap} (hv : U.vm = u.vm) (v : vst base t0 b0 L0 xs u H) : vst base t0 b0 L0 xs U H := by
  obtain ⟨h1, h2, h3, h4, h5, h6, h7, h8, h9⟩ := v
  have hA : u.vm.Alike U.vm := by rw [hv]; exact Vm.Alike.refl u.vm
  exact ⟨h1.moved hA, h2.moved hA, h3.moved hA, h4.moved hA, h5.moved hA, h6, fun is hi => by
    obtain ⟨tx, sa, h⟩ := h7 is hi
    exact ⟨tx, sa, h.same hv⟩, h8, fun E a E' b c => (h9 E a E' b c).moved hA⟩
theorem Pcg_blind {D : va_G} {cA : Nat → ClassId} {base t0 b0 L0 : Nat} {xs : Nat → Int32} {ad : Nat → Nat} {as : List vv} {h : vH} : FrameBlind (Pcg D cA base t0 b0 L0 xs ad as h) := by
  intro a U g mk ⟨q1, q2, q3, q4, q5⟩
  exact ⟨q1, q2, q3, va_K.moved (u := U) (U := U.calling g mk a) (Vm.Alike.refl U.vm) q4, vst_same rfl q5⟩
theorem vents_asc {ad : Nat → Nat} : ∀ (as : List vv) (i k : Nat) (v : vv), (vents as)[k]? = some v → v.1 ≤ 2 → (i + k, rv ad v) ∈ lv_args i (as.map (rv ad)) := by
  intro as
  induction as with
  | nil => intro i k v h; cases h
  | cons a l ih =>
    intro i k v h h2
    obtain ⟨t, z⟩ := a
    show (i + k, rv ad v) ∈ (i, rv ad (t, z)) :: lv_args (if (rv ad (t, z)).category = 2 then i + 2 else i + 1) (l.map (rv ad))
    by_cases ht : t = 2
    · subst ht
      have h : ((2, z) :: (8, 0) :: vents l)[k]? = some v := h
      rw [show (rv ad (2, z)).category = 2 from rfl, if_pos rfl]
      match k with
      | 0 => cases h; exact List.mem_cons_self
      | 1 => cases h; exact absurd h2 (by decide)
      | k + 2 =>
        have := ih (i + 2) k v h h2
        rw [show i + 2 + k = i + (k + 2) by omega] at this
        exact List.mem_cons_of_mem _ this
    · have hv : vents ((t, z) :: l) = (t, z) :: vents l := by
        conv => lhs; unfold vents
        split
        · rename_i e; cases e
        · rename_i e; cases e; exact absurd rfl ht
        · rename_i e; cases e; rfl
      rw [hv] at h
      rw [rv_cat2, if_neg (show ¬ (t, z).1 = 2 from ht), if_neg (by decide)]
      match k with
      | 0 => cases h; exact List.mem_cons_self
      | k + 1 =>
        have := ih (i + 1) k v h h2
        rw [show i + 1 + k = i + (k + 1) by omega] at this
        exact List.mem_cons_of_mem _ this
theorem vents_len {ad : Nat → Nat} (as : List vv) : (lg_sl (as.map (rv ad))).length = (vents as).length := by
  induction as with
  | nil => rfl
  | cons a l ih =>
    obtain ⟨t, z⟩ := a
    show ((if (rv ad (t, z)).category = 2 then [Slot.val (rv ad (t, z)), .second] else [.val (rv ad (t, z))]) ++ lg_sl (l.map (rv ad))).length = _
    rw [List.length_append, ih]
    by_cases ht : t = 2
    · subst ht
      show 2 + (vents l).length = (vents l).length + 1 + 1
      omega
    · have hv : vents ((t, z) :: l) = (t, z) :: vents l := by
        conv => lhs; unfold vents
        split
        · rename_i e; cases e
        · rename_i e; cases e; exact absurd rfl ht
        · rename_i e; cases e; rfl
      rw [hv, rv_cat2, if_neg (show ¬ (t, z).1 = 2 from ht), if_neg (by decide)]
      show 1 + _ = _ + 1
      omega
theorem asc_ent {ad : Nat → Nat} {as : List vv} {k : Nat} : ∀ x ∈ asc ad (vent k as), x ∈ lv_args 0 (as.map (rv ad)) := by
  intro ⟨j, w⟩ hx
  obtain ⟨v, hv, h2, e⟩ := mem_asc.mp hx
  subst e
  unfold vent at hv
  by_cases hj : j < (vents as).length
  · rw [List.getElem?_append_left hj] at hv
    have := vents_asc (ad := ad) as 0 j v hv h2
    rw [Nat.zero_add] at this
    exact this
  · rw [List.getElem?_append_right (by omega)] at hv
    have hm := List.mem_of_getElem? hv
    rw [(List.mem_replicate.mp hm).2] at h2
    exact absurd h2 (by decide)
theorem vent_len {as : List vv} {k : Nat} (h : (vents as).length ≤ k) : (vent k as).length = k := by
  unfold vent
  rw [List.length_append, List.length_replicate]
  omega
/-- what a run of n steps says of the machine -/
def SndW (l : Launch) (D : va_G) (cA : Nat → ClassId) (base t0 b0 L0 : Nat) (xs : Nat → Int32) (n : Nat) : Prop :=
  ∀ (M : vM) (p : Program) (e : Env) (R : Room) (s : State) (m : MethodId) (args : Array Value) (below : List Frame) (meth : Method) (c : Code), (∀ x ∈ vmH M, okw (.classLink (vcn (vmC M)) x.2.2.2.1 x.2.2.2.2) ∧ okw (.castable x.2.2.2.2 x.2.2.2.2) ∧ x.2.2.2.1 ≠ 0 ∧ x.2.2.2.2 ∈ vexh) → Cx l D cA base t0 b0 L0 xs p R s m args meth c M →
  ∀ (pc : Nat) (L S : List vv) (h h' : vH) (r : vR), vev n M pc L S h = some (r, h') → (c.exceptionTable.toList = tableOf ((vmH M).map fun x => (x.1, x.2.1, x.2.2.1, x.2.2.2.1)) ∨ (vmH M = [] ∧ ∃ v, r = .inl v)) → okS L0 xs h L S → ∀ (H : Heap) (locs : List Loc) (cells slots : Nat) (ls : Array Slot) (ad : Nat → Nat), Rl D cA base t0 b0 s M H locs ls ad h L →
  (R.cells : Int) = cells + (h' 4 0 0 - h 4 0 0) → (R.slots : Int) = slots + (h' 5 0 0 - h 5 0 0) → ∀ (n0 : Int) (ad0 : Nat → Nat), n0 ≤ h 3 0 0 → ext n0 ad0 ad →
  W p l e R s m args below meth c H locs cells slots (vx_MQ below (Qg D cA base n0 ad0 r h') (Xg D cA base n0 ad0 r h') args s R.cells R.slots (fun q => base ≤ q)) (F0 m pc ls (S.map (rv ad)))
/-- a method's contract out of its run -/
theorem snd_met {l : Launch} (hst : l.stackTraces = false) {D : va_G} {cA : Nat → ClassId} {base t0 b0 L0 : Nat} {xs : Nat → Int32} {n : Nat} (ih : SndW l D cA base t0 b0 L0 xs n) {M : vM} (g : okm M) {as : List vv} {h h' : vH} {r : vR} (ev : vev n M 0 (vent (vmL M) as) [] h = some (r, h')) (o : hok L0 xs h) (ha : ∀ v ∈ as, vok (h 3 0 0) v) (hl : (vents as).length ≤ vmL M) {ad : Nat → Nat} (h1 : ad 1 = t0) (h2 : ad 2 = b0) {mc ms : Nat} (hc : (mc : Int) = h' 4 0 0 - h 4 0 0) (hs : (ms : Int) = h' 5 0 0 - h 5 0 0) :
    vx_Met l (vmY M) (wsM M) { frames := vmF M, cells := mc, slots := ms, locals := vmW M } (Pcg D cA base t0 b0 L0 xs ad as h) (Qg D cA base (h 3 0 0) ad r h') (Xg D cA base (h 3 0 0) ad r h') mc ms (fun q => base ≤ q) := by
  obtain ⟨g1, g2, g3, g4⟩ := g
  have body : ∀ (p : Program) (e : Env) (s : State) (m : MethodId) (args : Array Value) (below : List Frame) (meth : Method) (c : Code) (s₁ : State), BodyLoose p l (vmY M) (headSpec (wsM M) { frames := vmF M, cells := mc, slots := ms, locals := vmW M }) (vmB M) (vmL M) (vmR M) e s m args below meth c s₁ → c.maxLocals = vmL M → c.exceptionTable.toList = tableOf ((vmH M).map fun x => (x.1, x.2.1, x.2.2.1, x.2.2.2.1)) → Pcg D cA base t0 b0 L0 xs ad as h args s →
      W p l e (headSpec (wsM M) { frames := vmF M, cells := mc, slots := ms, locals := vmW M }).room s m args below meth c s.heap [] 0 0 (vx_MQ below (Qg D cA base (h 3 0 0) ad r h') (Xg D cA base (h 3 0 0) ad r h') args s mc ms (fun q => base ≤ q)) (entryFrame m args (vmL M)) := by
    intro p e s m args below meth c s₁ B hml hxt hP
    obtain ⟨rfl, hP1, hP2, hP3, hP4⟩ := hP
    have hts : ∀ w ∈ wsM M, w.before (as.map (rv ad)).toArray s = true := atoms_spec (ws := wsM M) B.pre
    have htw : ∀ w, okw w → w.before (as.map (rv ad)).toArray s = true := fun w hw => hts w (by unfold wsM; split <;> exact List.mem_cons_of_mem _ (TWg_mem hw))
    have hown : s.vm.findClass (vcn (vmC M)) = some m.cls := by rw [g4]; exact findClass_of_methodNamed B.named
    have hnm : meth.name = (vmY M).name := (name_of_methodNamed B.named B.method).1
    have C : Cx l D cA base t0 b0 L0 xs p (headSpec (wsM M) { frames := vmF M, cells := mc, slots := ms, locals := vmW M }).room s m (as.map (rv ad)).toArray meth c M := ⟨B.exec, B.bytes, B.returns, hml, hown, htw, B.notSynchronized, fun z => hnm.trans z, trivial, rfl, rfl, hst, hP3, hP4⟩
    rw [lg_entry_eq]
    have hent := lv_entry (as.map (rv ad)) (n := vmL M) (by rw [vents_len]; exact hl)
    have k := ih M p e _ s m _ below meth c g3 C 0 (vent (vmL M) as) [] h h' r ev (Or.inl hxt) (ok_ent o ha) s.heap [] 0 0 _ ad ⟨hP1, hP2, va_S.rf, lv_more hent asc_ent, vent_len hl, h1, h2⟩ (by show (mc : Int) = (0 : Nat) + _; omega) (by show (ms : Int) = (0 : Nat) + _; omega) (h 3 0 0) ad (Int.le_refl _) ext_refl
    exact k
  by_cases hh : vmH M = []
  · refine vx_ofW (cc := vmB M) (maxL := vmL M) (ret := vmR M) (ws' := TWg) g1 (by unfold wsM; rw [if_pos hh]) ?_
    intro p e s m args below meth c s₁ B hml hno hP
    refine body p e s m args below meth c s₁ B hml ?_ hP
    rw [hh]
    exact List.eq_nil_iff_forall_not_mem.mpr fun x hx => hno x hx
  · refine vx_ofWH (cc := vmB M) (maxL := vmL M) (ret := vmR M) (hh := (vmH M).map fun x => (x.1, x.2.1, x.2.2.1, x.2.2.2.1)) (ws' := TWg) g1 (by unfold wsM; rw [if_neg hh]) ?_
    intro p e s m args below meth c s₁ B hml hP
    refine body p e s m args below meth c s₁ B hml ?_ hP
    exact vx_table (x := vmY M) B (atoms_spec (ws := wsM M) B.pre _ (by unfold wsM; rw [if_neg hh]; exact List.mem_cons_self))
