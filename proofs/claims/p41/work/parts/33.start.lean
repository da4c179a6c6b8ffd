def vh0 (L0 : Nat) (xs : Nat → Int32) : vH := fun k r i =>
  if k = 0 ∧ i = 0 then (if r = 1 then 10 else if r = 2 then 11 else 0)
  else if k = 1 ∧ i = 0 ∧ r = 2 then (L0 : Int)
  else if k = 2 ∧ r = 2 then (xs i.toNat).toInt
  else if k = 3 ∧ r = 0 ∧ i = 0 then 3 else 0
theorem vh0_ok {L0 : Nat} {xs : Nat → Int32} : hok L0 xs (vh0 L0 xs) := by
  have k0 : ∀ r, vh0 L0 xs 0 r 0 = if r = 1 then 10 else if r = 2 then 11 else 0 := fun r => rfl
  have n3 : vh0 L0 xs 3 0 0 = 3 := rfl
  refine ⟨by rw [n3]; decide, fun r hr => ?_, fun r h1 h2 => ?_, fun r ci e => ?_, fun r e1 e2 => ?_, rfl, rfl, rfl, rfl, fun i _ _ => rfl⟩
  · rw [k0] at hr
    rw [n3]
    by_cases a : r = 1
    · omega
    · by_cases b : r = 2
      · omega
      · rw [if_neg a, if_neg b] at hr
        exact absurd rfl hr
  · rw [n3] at h2
    omega
  · rw [k0] at e
    split at e
    · omega
    · split at e
      · omega
      · omega
  · rw [k0] at e1 e2
    split at e1
    · rename_i a; rw [if_pos a] at e2; omega
    · rename_i a
      split at e1
      · rename_i b; rw [if_neg a, if_pos b] at e2; omega
      · omega
theorem kn_prim {args : Array Value} {s : State} {ty : FieldType} (h : (Cond.arrayClass ty).before args s = true) : ∃ cA : ClassId, ArrOfT s cA ty ∧ s.vm.findClass ("[" ++ ty.toString) = some cA := by
  obtain ⟨cA, kA, comp, h1, h2, h3⟩ := Cond.arrayClass_spec h
  exact ⟨cA, fun n z => ⟨fun k h => (by cases h), kA, h2, comp, h3⟩, h1⟩
theorem kn_obj {args : Array Value} {s : State} {C : String} (h : (Cond.arrayOver (.object C)).before args s = true) : ∃ cA : ClassId, ArrOfT s cA (.object C) ∧ va_RA s cA (.object C) := by
  obtain ⟨comp, cA, kA, hcomp, hidx, hk, hkind, hname⟩ := Cond.arrayOver_spec h
  exact ⟨cA, fun n z => ⟨fun k h => (by cases h), kA, hk, comp, hkind⟩, kA, comp, hk, hkind, hcomp, hname⟩
theorem kn_all {args : Array Value} {s : State} (hts : ∀ w, okw w → w.before args s = true) : ∃ (D : va_G) (cA : Nat → ClassId), va_K D vwCl (ktys cA) s := by
  have cls : ∀ ci : Nat, ∃ (cC : ClassId) (iS : Nat → Nat), ∀ q : vw_C, vwCl[ci]? = some q → u_Kn s q.1 q.2.1 q.2.2 cC iS := by
    intro ci
    by_cases hci : ci < 14
    · obtain ⟨C, T, e1, -, -, hw, hi, -⟩ := gc ci hci
      obtain ⟨cC, iS, hK⟩ := u_known (ws := TWg) (T := T) (N := vn ci) (fun w hw => hts w (TWg_ok hw)) (fun w h => TWg_mem (hw w h)) (hts _ hi)
      exact ⟨cC, iS, fun q hq => by rw [e1] at hq; cases hq; exact hK⟩
    · exact ⟨0, fun _ => 0, fun q hq => by
        have := (List.getElem?_eq_some_iff.mp hq).1
        exact absurd (show ci < 14 from this) hci⟩
  obtain ⟨c1, a1, b1⟩ := kn_prim (hts _ (okw_t (in_1 (List.mem_of_getElem? (i := 64) rfl)) rfl))
  obtain ⟨c2, a2, b2⟩ := kn_prim (hts _ (okw_t (in_1 (List.mem_of_getElem? (i := 101) rfl)) rfl))
  obtain ⟨c4, a4, b4⟩ := kn_obj (hts _ (okw_t (in_1 (List.mem_of_getElem? (i := 44) rfl)) rfl))
  obtain ⟨c5, a5, b5⟩ := kn_obj (hts _ (okw_t (in_1 (List.mem_of_getElem? (i := 75) rfl)) rfl))
  obtain ⟨c6, a6, b6⟩ := kn_obj (hts _ (okw_t (in_5 (List.mem_of_getElem? (i := 187) rfl)) rfl))
  refine ⟨(fun ci => Classical.choose (cls ci), fun ci => Classical.choose (Classical.choose_spec (cls ci))), fun k => match k with | 1 => c1 | 2 => c2 | 3 => c1 | 4 => c4 | 5 => c5 | _ => c6, ?_, ?_⟩
  · intro ci q hq
    exact Classical.choose_spec (Classical.choose_spec (cls ci)) q hq
  · intro k q hq
    match k, hq with
    | 0, hq => cases hq; exact ⟨a1, b1⟩
    | 1, hq => cases hq; exact ⟨a2, b2⟩
    | 2, hq => cases hq; exact ⟨a1, b1⟩
    | 3, hq => cases hq; exact ⟨a4, b4⟩
    | 4, hq => cases hq; exact ⟨a5, b5⟩
    | 5, hq => cases hq; exact ⟨a6, b6⟩
    | k + 6, hq => cases hq
theorem st_str {args : Array Value} {s : State} (hts : ∀ w ∈ lw_tbl, w.before args s = true) (hgv : (Jvm.Cond.and given_1 narrow_1).before args s = true) : ∀ is ∈ [338, 336, 340, 342, 344, 155, 169, 178, 348], ∃ (tx : String) (sa : Nat), vk_R "PaneLayers" is tx sa s := by
  have hs := flat_of_before _ hgv
  have key : ∀ (is : Nat) (tx : String), (.stringRef "PaneLayers" is tx : Cond) ∈ lw_tbl → Cond.exactly (.string "PaneLayers" is) "java/lang/String" ∈ flatC (Jvm.Cond.and given_1 narrow_1) → ∃ (tx : String) (sa : Nat), vk_R "PaneLayers" is tx sa s := by
    intro is tx w1 w2
    obtain ⟨a, c, cell, k, h1, -⟩ := Cond.exactly_spec (hs _ w2)
    exact ⟨tx, a, vk_R.of (hts _ w1) h1⟩
  simp only [List.forall_mem_cons]
  refine ⟨key 338 _ (List.mem_append_right _ (in_2 (List.mem_of_getElem? (i := 197) rfl))) (by decide +kernel), key 336 _ (List.mem_append_right _ (in_3 (List.mem_of_getElem? (i := 81) rfl))) (by decide +kernel), key 340 _ (List.mem_append_right _ (in_6 (List.mem_of_getElem? (i := 165) rfl))) (by decide +kernel), key 342 _ (List.mem_append_right _ (in_3 (List.mem_of_getElem? (i := 5) rfl))) (by decide +kernel), key 344 _ (List.mem_append_right _ (in_4 (List.mem_of_getElem? (i := 143) rfl))) (by decide +kernel), key 155 _ (List.mem_append_right _ (in_6 (List.mem_of_getElem? (i := 113) rfl))) (by decide +kernel), key 169 _ (List.mem_append_right _ (in_5 (List.mem_of_getElem? (i := 198) rfl))) (by decide +kernel), key 178 _ (List.mem_append_right _ (in_6 (List.mem_of_getElem? (i := 139) rfl))) (by decide +kernel), key 348 _ (List.mem_append_right _ (in_4 (List.mem_of_getElem? (i := 157) rfl))) (by decide +kernel), fun _ h => (List.not_mem_nil h).elim⟩
theorem st_exc {args : Array Value} {s : State} (hgv : (Jvm.Cond.and given_1 narrow_1).before args s = true) : ∀ E ∈ vexn, ∀ E2 ∈ vexh, E ≠ E2 → va_Nc E E2 s := by
  have hs := flat_of_before _ hgv
  intro E h1 E2 h2 hne
  unfold vexn at h1
  unfold vexh at h2
  simp only [List.mem_cons, List.not_mem_nil, or_false] at h1 h2
  rcases h1 with rfl | rfl | rfl <;> rcases h2 with rfl | rfl
  · exact va_Nc.of (hs _ (by decide +kernel))
  · exact va_Nc.of (hs _ (by decide +kernel))
  · exact absurd rfl hne
  · exact va_Nc.of (hs _ (by decide +kernel))
  · exact va_Nc.of (hs _ (by decide +kernel))
  · exact absurd rfl hne
theorem st_all {s : State} {b L : Nat} {xs : Nat → Int32} (hL : L ≤ 260) (hts0 : ∀ w ∈ lw_tbl, w.before #[Value.ref b] s = true) (hts : ∀ w, okw w → w.before #[Value.ref b] s = true) (hX : va_X b L xs s s.heap) (hbl : b < s.heap.size) (hgv : (Jvm.Cond.and given_1 narrow_1).before #[Value.ref b] s = true) : ∃ t0 : Nat, vst s.heap.size t0 b L xs s s.heap := by
  have hs := flat_of_before _ hgv
  have hA : ∀ a : Nat, a < s.heap.size → ¬ s.heap.size ≤ a := fun a h => Nat.not_le.mpr h
  obtain ⟨t0, e1, e2⟩ := va_Tof (A := fun q => s.heap.size ≤ q) (ty := .object "java/lang/Object") (N := 0) (f := fun _ => .null) (by decide) (hs (.arrayOf (.static "java/util/ArrayList" "DEFAULTCAPACITY_EMPTY_ELEMENTDATA" "[Ljava/lang/Object;") (.object "java/lang/Object")) (by decide +kernel)) (va_eqt (hs (.eq (.length (.static "java/util/ArrayList" "DEFAULTCAPACITY_EMPTY_ELEMENTDATA" "[Ljava/lang/Object;")) (.int 0)) (by decide +kernel))) (fun j hj => absurd hj (Nat.not_lt_zero j)) hA
  refine ⟨t0, va_Zof (hts0 _ (List.mem_append_right _ (in_1 (List.mem_of_getElem? (i := 126) rfl)))) (hts _ (okw_t (in_1 (List.mem_of_getElem? (i := 9) rfl)) rfl)) e1 hA, e2, ?_, ?_, hX, hbl, st_str hts0 hgv, Nat.le_refl _, st_exc hgv⟩
  · exact vx_Zqof (hts0 _ (List.mem_append_right _ (in_2 (List.mem_of_getElem? (i := 183) rfl)))) (hts _ (okw_t (in_1 (List.mem_of_getElem? (i := 14) rfl)) rfl)) (hs _ (by decide +kernel)) hA
  · exact vx_Zqof (hts0 _ (List.mem_append_right _ (in_2 (List.mem_of_getElem? (i := 185) rfl)))) (hts _ (okw_t (in_1 (List.mem_of_getElem? (i := 14) rfl)) rfl)) (hs _ (by decide +kernel)) hA
def R_law : String := "PaneLayersLaw"
def lw_P (b : Addr) (xs : List Int32) (args : Array Value) (s : State) : Prop := args = #[.ref b] ∧ s.IntsAt b xs ∧ xs.length ≤ 260 ∧ (Jvm.Cond.and given_1 narrow_1).before args s = true
def lw_Q (_ : Array Value) (s : State) (o : Outcome) (t : State) : Prop := o = .returned (some (.int 1)) ∧ Framed s o t [] 600086 7301442
def lw_Z (below : List Frame) (a : Array Value) (s : State) : State → Prop := fun t => ∃ o, t.status = .running ∧ Ended t below o ∧ lw_Q a s o t
def lw_At (p : Program) (s : State) (m : MethodId) (meth : Method) (c : Code) (b L : Nat) (xs : Nat → Int32) : Prop :=
  p.tables.exec = Jvm.exec ∧ c.code = code ∧ meth.sig.returnType = ret ∧ c.maxLocals = 18 ∧ s.vm.findClass R_law = some m.cls ∧ (∀ w ∈ lw_tbl, w.before #[Value.ref b] s = true) ∧ va_X b L xs s s.heap ∧ b < s.heap.size ∧ meth.locks = false ∧ (Jvm.Cond.and given_1 narrow_1).before #[Value.ref b] s = true
/-- THE LAW COMES TO ITS END WITH TRUE, IF THE PURE MACHINE SAYS SO -/
theorem whole_of_run {p : Program} {e : Env} {s : State} {m : MethodId} {below : List Frame} {meth : Method} {c : Code} (l : Launch) (hflags : l.flags = flags0) {b L : Nat} {xs : Nat → Int32} (hL : L ≤ 260) (C0 : lw_At p s m meth c b L xs)
    {h' : vH} (hr : vrun mL_law 0 (vent 18 [(1, 2)]) [] (vh0 L xs) = some (.inl (some (0, 1)), h')) (hc : h' 4 0 0 ≤ 600086) (hs : h' 5 0 0 ≤ 7301442) :
    W p l e room_1 s m #[Value.ref b] below meth c s.heap [] 0 0 (lw_Z below #[Value.ref b] s) (entryFrame m ([Value.ref b] : List Value).toArray 18) := by
  obtain ⟨hx, hb, hrt, hml, hown, hts0, hX, hbl, hlk, hgv⟩ := C0
  have hts : ∀ w, okw w → w.before #[Value.ref b] s = true := fun w hw => hts0 w hw.1
  have hst : l.stackTraces = false := by unfold Launch.stackTraces; rw [hflags]; decide
  obtain ⟨D, cA, hK⟩ := kn_all hts
  obtain ⟨t0, hv⟩ := st_all hL hts0 hts hX hbl hgv
  obtain ⟨n, ev⟩ := vrun_iff.mp hr
  have o0 : okS L xs (vh0 L xs) (vent 18 [(1, 2)]) [] := ok_ent vh0_ok (fun v hv => by
    rw [List.mem_singleton.mp hv]
    exact ⟨by decide, (by decide : (2 : Int) < 3)⟩)
  obtain ⟨o1, l1, -⟩ := ev_ok (by omega) n ev o0
  have c0 : (0 : Int) ≤ h' 4 0 0 := l1.2.1
  have s0 : (0 : Int) ≤ h' 5 0 0 := l1.2.2
  let ad : Nat → Nat := fun k => if k = 1 then t0 else if k = 2 then b else 0
  have C : Cx l D cA s.heap.size t0 b L xs p room_1 s m #[Value.ref b] meth c mL_law := ⟨hx, hb, hrt, hml, hown, hts, hlk, fun z => absurd z (by decide), trivial, rfl, rfl, hst, hK, hv⟩
  have hent := lv_entry ([.ref b]) (n := 18) (Nat.le_of_ble_eq_true rfl)
  have k := snd_run hst (L0 := L) (xs := xs) (by omega) n mL_law p e room_1 s m #[Value.ref b] below meth c (fun x hx => nomatch hx) C 0 _ [] (vh0 L xs) h' _ ev (Or.inr ⟨rfl, _, rfl⟩) o0 s.heap [] (600086 - (h' 4 0 0).toNat) (7301442 - (h' 5 0 0).toNat) _ ad ⟨(fun k q hq => nomatch hq), ⟨(fun i j p q h => nomatch h), (fun k q h => nomatch h)⟩, va_S.rf, lv_more hent (fun x hx => asc_ent (ad := ad) (as := [(1, 2)]) (k := 7) x hx), rfl, rfl, rfl⟩ (by show ((600086 : Nat) : Int) = _ + (h' 4 0 0 - 0); omega) (by show ((7301442 : Nat) : Int) = _ + (h' 5 0 0 - 0); omega) 3 ad (Int.le_refl _) ext_refl
  rw [lg_entry_eq]
  refine W.widen (k := 600086 - (h' 4 0 0).toNat) (n := 7301442 - (h' 5 0 0).toNat) (Nat.zero_le _) (Nat.zero_le _) ?_
  intro T hT X
  obtain ⟨t, a1, o, b1, b2, b3⟩ := k T hT X
  refine ⟨t, a1, o, b1, b2, ?_⟩
  rcases b3 with ⟨⟨v, hv1, ⟨ad', -, hv2, -⟩, -⟩, L2, ⟨f1, f2, f3⟩, f4⟩ | ⟨q, -, E, ce, L2, ⟨z, -⟩, -⟩
  · cases hv1
    refine ⟨hv2, f1, f2, f3.weaken (fun y hy hlt => absurd hlt (Nat.not_lt.mpr (f4 y hy))) (Nat.le_refl _) (Nat.le_refl _)⟩
  · cases z
