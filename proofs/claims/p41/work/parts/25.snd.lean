theorem obj_args {o k : Nat} {q : Nat × Nat × Nat × vM} (h : vrs o k = some q) : q.1 = 6 → q.2.2.1 = 0 := by
  unfold vrs at h
  split at h
  · exact (by decide +kernel : ∀ e ∈ vrsT_0, e.2.1 = 6 → e.2.2.2.1 = 0) _ (lk_mem h)
  · exact (by decide +kernel : ∀ e ∈ vrsT_1, e.2.1 = 6 → e.2.2.2.1 = 0) _ (lk_mem h)
  · exact (by decide +kernel : ∀ e ∈ vrsT_2, e.2.1 = 6 → e.2.2.2.1 = 0) _ (lk_mem h)
  · exact (by decide +kernel : ∀ e ∈ vrsT_3, e.2.1 = 6 → e.2.2.2.1 = 0) _ (lk_mem h)
  · exact (by decide +kernel : ∀ e ∈ vrsT_4, e.2.1 = 6 → e.2.2.2.1 = 0) _ (lk_mem h)
  · exact (by decide +kernel : ∀ e ∈ vrsT_5, e.2.1 = 6 → e.2.2.2.1 = 0) _ (lk_mem h)
  · exact (by decide +kernel : ∀ e ∈ vrsT_6, e.2.1 = 6 → e.2.2.2.1 = 0) _ (lk_mem h)
  · exact (by decide +kernel : ∀ e ∈ vrsT_7, e.2.1 = 6 → e.2.2.2.1 = 0) _ (lk_mem h)
  · exact (by decide +kernel : ∀ e ∈ vrsT_8, e.2.1 = 6 → e.2.2.2.1 = 0) _ (lk_mem h)
  · exact (by decide +kernel : ∀ e ∈ vrsT_9, e.2.1 = 6 → e.2.2.2.1 = 0) _ (lk_mem h)
  · exact (by decide +kernel : ∀ e ∈ vrsT_10, e.2.1 = 6 → e.2.2.2.1 = 0) _ (lk_mem h)
  · exact (by decide +kernel : ∀ e ∈ vrsT_11, e.2.1 = 6 → e.2.2.2.1 = 0) _ (lk_mem h)
  · exact (by decide +kernel : ∀ e ∈ vrsT_12, e.2.1 = 6 → e.2.2.2.1 = 0) _ (lk_mem h)
  · exact (by decide +kernel : ∀ e ∈ vrsT_13, e.2.1 = 6 → e.2.2.2.1 = 0) _ (lk_mem h)
  · exact (by decide +kernel : ∀ e ∈ vrsT_20, e.2.1 = 6 → e.2.2.2.1 = 0) _ (lk_mem h)
  · exact (by decide +kernel : ∀ e ∈ vrsT_21, e.2.1 = 6 → e.2.2.2.1 = 0) _ (lk_mem h)
  · exact (by decide +kernel : ∀ e ∈ vrsT_22, e.2.1 = 6 → e.2.2.2.1 = 0) _ (lk_mem h)
  · exact (by decide +kernel : ∀ e ∈ vrsT_23, e.2.1 = 6 → e.2.2.2.1 = 0) _ (lk_mem h)
  · cases h
theorem va_T_lt {ty : FieldType} {t N base : Nat} {f : Nat → Value} {U : State} {H : Heap} (h : va_T ty t N f (fun q => base ≤ q) U H) (hb : base ≤ H.size) : t < base := by
  obtain ⟨cell, h1, h2, h3, h4, h5, h6, h7⟩ := h
  exact Nat.not_le.mp h7
section SN0
variable {l : Launch} {D : va_G} {cA : Nat → ClassId} {base t0 b0 L0 : Nat} {xs : Nat → Int32} {p : Program} {e : Env} {R : Room} {s : State} {m : MethodId} {args : Array Value} {below : List Frame} {meth : Method} {c : Code} {M : vM}
variable {H : Heap} {locs : List Loc} {cells slots : Nat} {Q : State → Prop} {pc : Nat} {ls : Array Slot} {S : List vv} {ad : Nat → Nat} {h : vH} {L : List vv}
theorem drop_shape {S : List vv} {n : Nat} {b : Int} {rest : List vv} (hd : S.drop n = (1, b) :: rest) : S.map (rv ad) = (((S.take n).reverse.map (rv ad)).reverse) ++ rv ad (1, b) :: rest.map (rv ad) := by
  conv => lhs; rw [← List.take_append_drop n S, hd]
  rw [List.map_append, List.map_reverse, List.reverse_reverse]
  rfl
theorem snd_obj (C : Cx l D cA base t0 b0 L0 xs p R s m args meth c M) (x4 : lv_has ls (vmL M) (asc ad L)) {k : Nat} {y : Nat × Nat × Nat × vM} (hy : vrs (vmC M) k = some y) (h6 : y.1 = 6) {b : Int} {rest : List vv} (hd : S.drop y.2.2.1 = (1, b) :: rest) (hb0 : ¬ b = 0) (hr9 : vcat rest ≤ 8 ∧ 1 ≤ vmF M ∧ 20 ≤ vmW M) (d : decode (vmB M) pc = .ok (.invokespecial k, 3))
    (K : W p l e R s m args below meth c H locs cells slots Q (F0 m (pc + 3) ls (rest.map (rv ad)))) : W p l e R s m args below meth c H locs cells slots Q (F0 m pc ls (S.map (rv ad))) := by
  obtain ⟨hw, hsd, -⟩ := tg_vrs hy
  have h0 : y.2.2.1 = 0 := obj_args hy h6
  rw [h0] at hd
  have hS : S = (1, b) :: rest := hd
  subst hS
  rw [h6] at hw
  obtain ⟨hx, hb, hr, hml, hown, hts, -, -, -, hfr, hlo, -, hK, -⟩ := C
  have w1 := hts _ (hw _ List.mem_cons_self)
  have w2 := hts _ (hw _ (List.mem_cons_of_mem _ List.mem_cons_self))
  have w3 := hts _ (hw _ (List.mem_cons_of_mem _ (List.mem_cons_of_mem _ List.mem_cons_self)))
  refine W.objInit (g := F0 m pc ls (((1, b) :: rest).map (rv ad))) (a := ad b.toNat) (rest := rest.map (rv ad)) hx hb hown w1 w2 w3 rfl (x4.1.trans hml.symm) (by show rv ad (1, b) :: rest.map (rv ad) = _; rw [rv_ref hb0]) d (by omega) (by show 2 * 0 + ((rest.map (rv ad)).map fun v => v.category).sum + 12 ≤ R.locals; rw [cat_sum]; omega) K
theorem snd_max (C : Cx l D cA base t0 b0 L0 xs p R s m args meth c M) (x4 : lv_has ls (vmL M) (asc ad L)) {k : Nat} {y : Nat × Nat × Nat × vM} (hy : vrs (vmC M) k = some y) (h6 : y.1 = 8) {a2 b2 : Int} (ca : c32 a2) (cb : c32 b2) (hr9 : vcat S ≤ 8 ∧ 1 ≤ vmF M ∧ 40 ≤ vmW M) (hc : cells ≤ R.cells) (hs : slots ≤ R.slots) (d : decode (vmB M) pc = .ok (.invokestatic k, 3))
    (K : W p l e R s m args below meth c H locs cells slots Q (F0 m (pc + 3) ls (rv ad (0, if a2 < b2 then b2 else a2) :: S.map (rv ad)))) : W p l e R s m args below meth c H locs cells slots Q (F0 m pc ls (rv ad (0, b2) :: rv ad (0, a2) :: S.map (rv ad))) := by
  obtain ⟨hw, hsd, -⟩ := tg_vrs hy
  rw [h6] at hw
  obtain ⟨hx, hb, hr, hml, hown, hts, -, -, -, hfr, hlo, -, hK, -⟩ := C
  have w1 := hts _ (hw _ List.mem_cons_self)
  have w2 := hts _ (hw _ (List.mem_cons_of_mem _ List.mem_cons_self))
  have w3 := hts _ (hw _ (List.mem_cons_of_mem _ (List.mem_cons_of_mem _ List.mem_cons_self)))
  have w4 := hts _ (hw _ (List.mem_cons_of_mem _ (List.mem_cons_of_mem _ (List.mem_cons_of_mem _ List.mem_cons_self))))
  refine va_mmax (x := vi32 a2) (y := vi32 b2) hx hb (hml.trans x4.1.symm) hown w1 w2 w3 w4 (by omega) (by rw [cat_sum]; omega) hc hs d ?_
  have e9 : (if vi32 a2 < vi32 b2 then vi32 b2 else vi32 a2) = vi32 (if a2 < b2 then b2 else a2) := by
    by_cases q : a2 < b2
    · rw [if_pos q, if_pos ((vi32_lt ca cb).mpr q)]
    · rw [if_neg q, if_neg (fun z => q ((vi32_lt ca cb).mp z))]
  rw [e9]
  exact K
theorem snd_min (C : Cx l D cA base t0 b0 L0 xs p R s m args meth c M) (x4 : lv_has ls (vmL M) (asc ad L)) {k : Nat} {y : Nat × Nat × Nat × vM} (hy : vrs (vmC M) k = some y) (h6 : y.1 = 9) {a2 b2 : Int} (ca : c32 a2) (cb : c32 b2) (hr9 : vcat S ≤ 8 ∧ 1 ≤ vmF M ∧ 40 ≤ vmW M) (hc : cells ≤ R.cells) (hs : slots ≤ R.slots) (d : decode (vmB M) pc = .ok (.invokestatic k, 3))
    (K : W p l e R s m args below meth c H locs cells slots Q (F0 m (pc + 3) ls (rv ad (0, if b2 < a2 then b2 else a2) :: S.map (rv ad)))) : W p l e R s m args below meth c H locs cells slots Q (F0 m pc ls (rv ad (0, b2) :: rv ad (0, a2) :: S.map (rv ad))) := by
  obtain ⟨hw, hsd, -⟩ := tg_vrs hy
  rw [h6] at hw
  obtain ⟨hx, hb, hr, hml, hown, hts, -, -, -, hfr, hlo, -, hK, -⟩ := C
  have w1 := hts _ (hw _ List.mem_cons_self)
  have w2 := hts _ (hw _ (List.mem_cons_of_mem _ List.mem_cons_self))
  have w3 := hts _ (hw _ (List.mem_cons_of_mem _ (List.mem_cons_of_mem _ List.mem_cons_self)))
  have w4 := hts _ (hw _ (List.mem_cons_of_mem _ (List.mem_cons_of_mem _ (List.mem_cons_of_mem _ List.mem_cons_self))))
  refine va_mmin (x := vi32 a2) (y := vi32 b2) hx hb (hml.trans x4.1.symm) hown w1 w2 w3 w4 (by omega) (by rw [cat_sum]; omega) hc hs d ?_
  have e9 : (if vi32 b2 < vi32 a2 then vi32 b2 else vi32 a2) = vi32 (if b2 < a2 then b2 else a2) := by
    by_cases q : b2 < a2
    · rw [if_pos q, if_pos ((vi32_lt cb ca).mpr q)]
    · rw [if_neg q, if_neg (fun z => q ((vi32_lt cb ca).mp z))]
  rw [e9]
  exact K
end SN0
set_option maxHeartbeats 8000000 in
theorem snd_next {l : Launch} {D : va_G} {cA : Nat → ClassId} {base t0 b0 L0 : Nat} {xs : Nat → Int32} {p : Program} {e : Env} {R : Room} {s : State} {m : MethodId} {args : Array Value} {below : List Frame} {meth : Method} {c : Code} {M : vM}
    {H : Heap} {locs : List Loc} {cells slots : Nat} {Q : State → Prop} {pc n : Nat} {ls : Array Slot} {L S : List vv} {ad : Nat → Nat} {h : vH} {ig : Instr} {q : Nat × List vv × List vv × vH} (hL0 : L0 ≤ 100000)
    (C : Cx l D cA base t0 b0 L0 xs p R s m args meth c M) (o : okS L0 xs h L S) (d : decode (vmB M) pc = .ok (ig, n)) (hn : n = vilen ig n) (a : vact1 ig M pc L S h = some (.inr (.inl q))) (X : Rl D cA base t0 b0 s M H locs ls ad h L)
    (hc : (cells : Int) + (q.2.2.2 4 0 0 - h 4 0 0) ≤ (R.cells : Int)) (hs : (slots : Int) + (q.2.2.2 5 0 0 - h 5 0 0) ≤ (R.slots : Int))
    (K : ∀ (H' : Heap) (locs' : List Loc) (ls' : Array Slot) (ad' : Nat → Nat) (cells' slots' : Nat), (cells' : Int) = cells + (q.2.2.2 4 0 0 - h 4 0 0) → (slots' : Int) = slots + (q.2.2.2 5 0 0 - h 5 0 0) → ext (h 3 0 0) ad ad' → Rl D cA base t0 b0 s M H' locs' ls' ad' q.2.2.2 q.2.1 → W p l e R s m args below meth c H' locs' cells' slots' Q (F0 m q.1 ls' (q.2.2.1.map (rv ad')))) :
    W p l e R s m args below meth c H locs cells slots Q (F0 m pc ls (S.map (rv ad))) := by
  have keep : ∀ (pc' : Nat) (S' : List vv), q = (pc', L, S', h) → W p l e R s m args below meth c H locs cells slots Q (F0 m pc' ls (S'.map (rv ad))) := by
    intro pc' S' e9
    subst e9
    exact K H locs ls ad cells slots (by show (cells : Int) = cells + (h 4 0 0 - h 4 0 0); omega) (by show (slots : Int) = slots + (h 5 0 0 - h 5 0 0); omega) ext_refl X
  have keepL : ∀ (pc' : Nat) (S' L' : List vv) (lv : List (Nat × Value)) (ls' : Array Slot), q = (pc', L', S', h) → lv_has ls' (vmL M) lv → (∀ x ∈ asc ad L', x ∈ lv) → L'.length = L.length → W p l e R s m args below meth c H locs cells slots Q (F0 m pc' ls' (S'.map (rv ad))) := by
    intro pc' S' L' lv ls' e9 h1 h2 h3
    subst e9
    obtain ⟨x1, x2, x3, x4, x5, x6, x7⟩ := X
    exact K H locs ls' ad cells slots (by show (cells : Int) = cells + (h 4 0 0 - h 4 0 0); omega) (by show (slots : Int) = slots + (h 5 0 0 - h 5 0 0); omega) ext_refl ⟨x1, x2, x3, lv_more h1 h2, h3.trans x5, x6, x7⟩
  have keepH : ∀ (pc' : Nat) (S' : List vv) (h' : vH), q = (pc', L, S', h') → h' 4 0 0 = h 4 0 0 → h' 5 0 0 = h 5 0 0 → ∀ (H1 : Heap) (locs1 : List Loc), va_P D vwCl (wo cA ad h') H1 → va_D (fun q => base ≤ q) (wo cA ad h') → va_S (fun q => base ≤ q) s.heap H1 locs1 → W p l e R s m args below meth c H1 locs1 cells slots Q (F0 m pc' ls (S'.map (rv ad))) := by
    intro pc' S' h' e9 h4 h5 H1 locs1 y1 y2 y3
    subst e9
    obtain ⟨x1, x2, x3, x4, x5, x6, x7⟩ := X
    exact K H1 locs1 ls ad cells slots (by show (cells : Int) = cells + (h' 4 0 0 - h 4 0 0); omega) (by show (slots : Int) = slots + (h' 5 0 0 - h 5 0 0); omega) ext_refl ⟨y1, y2, y3, x4, x5, x6, x7⟩
  have hb3 := o.1.1
  have keepN : ∀ (pc' : Nat) (S' : List vv) (ty len ns : Int) (q0 : Nat) (H1 : Heap), q = (pc', L, (1, h 3 0 0) :: S', vnew h ty len ns) → 0 ≤ ns → (∀ v ∈ S', vok (h 3 0 0) v) → va_P D vwCl (wo cA (adN ad (h 3 0 0) q0) (vnew h ty len ns)) H1 → va_D (fun q => base ≤ q) (wo cA (adN ad (h 3 0 0) q0) (vnew h ty len ns)) → va_S (fun q => base ≤ q) s.heap H1 locs → W p l e R s m args below meth c H1 locs (cells + 1) (slots + ns.toNat) Q (F0 m pc' ls (rv (adN ad (h 3 0 0) q0) (1, h 3 0 0) :: S'.map (rv ad))) := by
    intro pc' S' ty len ns q0 H1 e9 h0 hS' y1 y2 y3
    subst e9
    obtain ⟨x1, x2, x3, x4, x5, x6, x7⟩ := X
    have k2 := K H1 locs ls (adN ad (h 3 0 0) q0) (cells + 1) (slots + ns.toNat) (by show ((cells + 1 : Nat) : Int) = cells + (vnew h ty len ns 4 0 0 - h 4 0 0); rw [vnew_nc (by omega)]; omega) (by show ((slots + ns.toNat : Nat) : Int) = slots + (vnew h ty len ns 5 0 0 - h 5 0 0); rw [vnew_ns (by omega)]; omega) adN_ext ⟨y1, y2, y3, by rw [asc_ext adN_ext o.2.1]; exact x4, x5, (adN_ext 1 (by omega)).trans x6, (adN_ext 2 (by omega)).trans x7⟩
    have e8 : S'.map (rv (adN ad (h 3 0 0) q0)) = S'.map (rv ad) := map_ext adN_ext hS'
    have k3 : W p l e R s m args below meth c H1 locs (cells + 1) (slots + ns.toNat) Q (F0 m pc' ls (rv (adN ad (h 3 0 0) q0) (1, h 3 0 0) :: S'.map (rv (adN ad (h 3 0 0) q0)))) := k2
    rw [e8] at k3
    exact k3
  obtain ⟨hx, hb, hr, hml, hown, hts, hlk, hnm, hxt, hfr, hlo, hst, hK, hv⟩ := id C
  obtain ⟨x1, x2, x3, x4, x5, x6, x7⟩ := id X
  have u4 : ∀ (k : Nat) (r i v : Int), (k = 2 ∨ 6 ≤ k) → vup h k r i v 4 0 0 = h 4 0 0 := fun k r i v z => vup_nk (by omega)
  have u5 : ∀ (k : Nat) (r i v : Int), (k = 2 ∨ 6 ≤ k) → vup h k r i v 5 0 0 = h 5 0 0 := fun k r i v z => vup_nk (by omega)
  have cle : q.2.2.2 4 0 0 = h 4 0 0 → cells ≤ R.cells := fun z => by rw [z] at hc; omega
  have sle : q.2.2.2 5 0 0 = h 5 0 0 → slots ≤ R.slots := fun z => by rw [z] at hs; omega
  cases ig with
  | iload_n k =>
    have hn : n = 1 := hn
    subst hn
    dsimp only [vact1] at a
    split at a
    · rename_i x hxl
      exact lv_iload_n hx hb d rfl (lv_loc x4 hxl (Nat.le_of_ble_eq_true rfl)) (keep _ _ (vgo_inj a))
    · cases a
  | iload k =>
    have hn : n = 2 := hn
    subst hn
    dsimp only [vact1] at a
    split at a
    · rename_i x hxl
      exact lv_iload hx hb d (lv_loc x4 hxl (Nat.le_of_ble_eq_true rfl)) (keep _ _ (vgo_inj a))
    · cases a
  | lload_n k =>
    have hn : n = 1 := hn
    subst hn
    dsimp only [vact1] at a
    split at a
    · rename_i x hxl
      exact lv_lload_n hx hb d rfl (lv_loc x4 hxl (Nat.le_of_ble_eq_true rfl)) (keep _ _ (vgo_inj a))
    · cases a
  | lload k =>
    have hn : n = 2 := hn
    subst hn
    dsimp only [vact1] at a
    split at a
    · rename_i x hxl
      exact lv_lload hx hb d (lv_loc x4 hxl (Nat.le_of_ble_eq_true rfl)) (keep _ _ (vgo_inj a))
    · cases a
  | aload_n k =>
    have hn : n = 1 := hn
    subst hn
    dsimp only [vact1] at a
    split at a
    · rename_i x hxl
      have hl := lv_loc x4 hxl (Nat.le_of_ble_eq_true rfl)
      have k2 := keep _ _ (vgo_inj a)
      by_cases hz : x = 0
      · subst hz
        exact lv_aload_nN hx hb d rfl hl k2
      · rw [rv_ref hz] at hl
        have k3 : W p l e R s m args below meth c H locs cells slots Q (F0 m _ ls (rv ad (1, x) :: S.map (rv ad))) := k2
        rw [rv_ref hz] at k3
        exact lv_aload_n hx hb d rfl hl k3
    · cases a
  | istore_n k =>
    have hn : n = 1 := hn
    subst hn
    dsimp only [vact1] at a
    split at a
    · rename_i x S2
      split at a
      · rename_i hk
        exact lv_istore_n (x := vi32 x) (rest := S2.map (rv ad)) hx hb d rfl x4 (by omega) rfl (fun ls2 h2 => keepL _ _ _ _ _ (vgo_inj a) h2 (asc_set hk) vset_len)
      · cases a
    · cases a
  | astore_n k =>
    have hn : n = 1 := hn
    subst hn
    dsimp only [vact1] at a
    split at a
    · rename_i x S2
      split at a
      · rename_i hk
        have hg := vgo_inj a
        have hset := asc_set (ad := ad) (v := (1, x)) hk
        show W p l e R s m args below meth c H locs cells slots Q (F0 m pc ls (rv ad (1, x) :: S2.map (rv ad)))
        by_cases hz : x = 0
        · subst hz
          exact lv_astore_nN (rest := S2.map (rv ad)) hx hb d rfl x4 (by omega) rfl (fun ls2 h2 => keepL _ _ _ _ _ hg h2 hset vset_len)
        · rw [rv_ref hz] at hset ⊢
          exact lv_astore_n (rest := S2.map (rv ad)) hx hb d rfl x4 (by omega) rfl (fun ls2 h2 => keepL _ _ _ _ _ hg h2 hset vset_len)
      · cases a
    · cases a
  | lstore_n k =>
    have hn : n = 1 := hn
    subst hn
    dsimp only [vact1] at a
    split at a
    · rename_i x S2
      split at a
      · rename_i hk
        exact lv_lstore_n (x := vi64 x) (rest := S2.map (rv ad)) hx hb d rfl x4 (by omega) rfl (fun ls2 h2 => keepL _ _ _ _ _ (vgo_inj a) h2 (asc_set2 hk) (by unfold vset2; rw [List.length_set]; exact vset_len))
      · cases a
    · cases a
  | aload k =>
    have hn : n = 2 := hn
    subst hn
    dsimp only [vact1] at a
    split at a
    · rename_i x hxl
      have hl := lv_loc x4 hxl (Nat.le_of_ble_eq_true rfl)
      have k2 := keep _ _ (vgo_inj a)
      by_cases hz : x = 0
      · subst hz
        exact lv_aloadN hx hb d hl k2
      · rw [rv_ref hz] at hl
        have k3 : W p l e R s m args below meth c H locs cells slots Q (F0 m _ ls (rv ad (1, x) :: S.map (rv ad))) := k2
        rw [rv_ref hz] at k3
        exact lv_aload hx hb d hl k3
    · cases a
  | istore k =>
    have hn : n = 2 := hn
    subst hn
    dsimp only [vact1] at a
    split at a
    · rename_i x S2
      split at a
      · rename_i hk
        exact lv_istore (x := vi32 x) (rest := S2.map (rv ad)) hx hb d x4 (by omega) rfl (fun ls2 h2 => keepL _ _ _ _ _ (vgo_inj a) h2 (asc_set hk) vset_len)
      · cases a
    · cases a
  | astore k =>
    have hn : n = 2 := hn
    subst hn
    dsimp only [vact1] at a
    split at a
    · rename_i x S2
      split at a
      · rename_i hk
        have hg := vgo_inj a
        have hset := asc_set (ad := ad) (v := (1, x)) hk
        show W p l e R s m args below meth c H locs cells slots Q (F0 m pc ls (rv ad (1, x) :: S2.map (rv ad)))
        by_cases hz : x = 0
        · subst hz
          exact lv_astoreN (rest := S2.map (rv ad)) hx hb d x4 (by omega) rfl (fun ls2 h2 => keepL _ _ _ _ _ hg h2 hset vset_len)
        · rw [rv_ref hz] at hset ⊢
          exact lv_astore (rest := S2.map (rv ad)) hx hb d x4 (by omega) rfl (fun ls2 h2 => keepL _ _ _ _ _ hg h2 hset vset_len)
      · cases a
    · cases a
  | lstore k =>
    have hn : n = 2 := hn
    subst hn
    dsimp only [vact1] at a
    split at a
    · rename_i x S2
      split at a
      · rename_i hk
        exact lv_lstore (x := vi64 x) (rest := S2.map (rv ad)) hx hb d x4 (by omega) rfl (fun ls2 h2 => keepL _ _ _ _ _ (vgo_inj a) h2 (asc_set2 hk) (by unfold vset2; rw [List.length_set]; exact vset_len))
      · cases a
    · cases a
  | iinc k n9 =>
    have hn : n = 3 := hn
    subst hn
    dsimp only [vact1] at a
    split at a
    · rename_i x hxl
      split at a
      · rename_i hk
        obtain ⟨j, hj⟩ := List.getElem?_of_mem (mem_asc.mpr ⟨(0, x), hxl, Nat.le_of_ble_eq_true rfl, rfl⟩ : (k, rv ad (0, x)) ∈ asc ad L)
        exact lv_iinc (x := vi32 x) (v := vi32 (w32 (x + n9))) hx hb d x4 hj (by rw [vi32_w, Int32.ofInt_add]; rfl) (by omega) rfl (fun ls2 h2 => keepL _ _ _ _ _ (vgo_inj a) h2 (asc_set hk) vset_len)
      · cases a
    · cases a
  | iconst k =>
    have hn : n = 1 := hn
    subst hn
    dsimp only [vact1] at a
    split at a
    · rename_i hi
      exact lv_iconst hx hb d rfl (keep _ _ (vgo_inj a))
    · cases a
  | bipush k =>
    have hn : n = 2 := hn
    subst hn
    dsimp only [vact1] at a
    split at a
    · rename_i hi
      exact lv_bipush hx hb d (vi32_8 hi) (keep _ _ (vgo_inj a))
    · cases a
  | sipush k =>
    have hn : n = 3 := hn
    subst hn
    dsimp only [vact1] at a
    split at a
    · rename_i hi
      exact lv_sipush hx hb d (vi32_16 hi) (keep _ _ (vgo_inj a))
    · cases a
  | lconst k =>
    have hn : n = 1 := hn
    subst hn
    dsimp only [vact1] at a
    exact lv_lconst hx hb d (Int64.ofInt_eq_ofNat (n := k.val)).symm (keep _ _ (vgo_inj a))
  | ldc2_w k =>
    have hn : n = 3 := hn
    subst hn
    dsimp only [vact1] at a
    split at a
    · rename_i z hz
      exact lv_ldc2 hx hb hown (hts _ (tg_vlc hz)) d (keep _ _ (vgo_inj a))
    · cases a
  | ldc k =>
    have hn : n = 2 := hn
    subst hn
    dsimp only [vact1] at a
    split at a
    · rename_i z hz
      exact lv_ldc hx hb hown (hts _ (tg_vic hz)) d (keep _ _ (vgo_inj a))
    · cases a
  | aconst_null  =>
    have hn : n = 1 := hn
    subst hn
    dsimp only [vact1] at a
    exact lv_null hx hb d (keep _ _ (vgo_inj a))
  | iadd  =>
    have hn : n = 1 := hn
    subst hn
    dsimp only [vact1] at a
    split at a
    · rename_i b2 a2 S2
      refine lv_iadd (x := vi32 a2) (y := vi32 b2) (rest := S2.map (rv ad)) hx hb d ?_
      rw [vi32_add]
      exact keep _ _ (vgo_inj a)
    · cases a
  | isub  =>
    have hn : n = 1 := hn
    subst hn
    dsimp only [vact1] at a
    split at a
    · rename_i b2 a2 S2
      refine lv_isub (x := vi32 a2) (y := vi32 b2) (rest := S2.map (rv ad)) hx hb d ?_
      rw [vi32_sub]
      exact keep _ _ (vgo_inj a)
    · cases a
  | imul  =>
    have hn : n = 1 := hn
    subst hn
    dsimp only [vact1] at a
    split at a
    · rename_i b2 a2 S2
      refine lv_imul (x := vi32 a2) (y := vi32 b2) (rest := S2.map (rv ad)) hx hb d ?_
      rw [vi32_mul]
      exact keep _ _ (vgo_inj a)
    · cases a
  | idiv  =>
    have hn : n = 1 := hn
    subst hn
    dsimp only [vact1] at a
    split at a
    · rename_i b2 a2 S2
      split at a
      · cases a
      · rename_i hz
        have cb : c32 b2 := ok_head o
        have ca : c32 a2 := ok_head (ok_tail o)
        refine lv_idiv (x := vi32 a2) (y := vi32 b2) (rest := S2.map (rv ad)) hx hb d (by rw [show (0 : Int32) = vi32 0 from rfl, vi32_eq cb c32_0]; exact hz) ?_
        rw [vi32_div ca cb]
        exact keep _ _ (vgo_inj a)
    · cases a
  | irem  =>
    have hn : n = 1 := hn
    subst hn
    dsimp only [vact1] at a
    split at a
    · rename_i b2 a2 S2
      split at a
      · cases a
      · rename_i hz
        have cb : c32 b2 := ok_head o
        have ca : c32 a2 := ok_head (ok_tail o)
        refine lv_irem (x := vi32 a2) (y := vi32 b2) (rest := S2.map (rv ad)) hx hb d (by rw [show (0 : Int32) = vi32 0 from rfl, vi32_eq cb c32_0]; exact hz) ?_
        rw [vi32_rem ca cb]
        exact keep _ _ (vgo_inj a)
    · cases a
  | ineg  =>
    have hn : n = 1 := hn
    subst hn
    dsimp only [vact1] at a
    split at a
    · rename_i a2 S2
      refine lv_ineg (x := vi32 a2) (rest := S2.map (rv ad)) hx hb d ?_
      rw [vi32_neg]
      exact keep _ _ (vgo_inj a)
    · cases a
  | iand  =>
    have hn : n = 1 := hn
    subst hn
    dsimp only [vact1] at a
    split at a
    · rename_i b2 a2 S2
      refine lv_iand (x := vi32 a2) (y := vi32 b2) (rest := S2.map (rv ad)) hx hb d ?_
      rw [← vi32_of (vi32 a2 &&& vi32 b2)]
      exact keep _ _ (vgo_inj a)
    · cases a
  | ior  =>
    have hn : n = 1 := hn
    subst hn
    dsimp only [vact1] at a
    split at a
    · rename_i b2 a2 S2
      refine lv_ior (x := vi32 a2) (y := vi32 b2) (rest := S2.map (rv ad)) hx hb d ?_
      rw [← vi32_of (vi32 a2 ||| vi32 b2)]
      exact keep _ _ (vgo_inj a)
    · cases a
  | ishl  =>
    have hn : n = 1 := hn
    subst hn
    dsimp only [vact1] at a
    split at a
    · rename_i b2 a2 S2
      refine lv_ishl (x := vi32 a2) (y := vi32 b2) (rest := S2.map (rv ad)) hx hb d ?_
      rw [← vi32_of (vi32 a2 <<< (vi32 b2 &&& 31))]
      exact keep _ _ (vgo_inj a)
    · cases a
  | ishr  =>
    have hn : n = 1 := hn
    subst hn
    dsimp only [vact1] at a
    split at a
    · rename_i b2 a2 S2
      refine lv_ishr (x := vi32 a2) (y := vi32 b2) (rest := S2.map (rv ad)) hx hb d ?_
      rw [← vi32_of (vi32 a2 >>> (vi32 b2 &&& 31))]
      exact keep _ _ (vgo_inj a)
    · cases a
  | i2l  =>
    have hn : n = 1 := hn
    subst hn
    dsimp only [vact1] at a
    split at a
    · rename_i a2 S2
      exact lv_i2l (x := vi32 a2) (rest := S2.map (rv ad)) hx hb d (vi64_i (ok_head o)) (keep _ _ (vgo_inj a))
    · cases a
  | l2i  =>
    have hn : n = 1 := hn
    subst hn
    dsimp only [vact1] at a
    split at a
    · rename_i a2 S2
      exact lv_l2i (x := vi64 a2) (rest := S2.map (rv ad)) hx hb d (vi32_l (ok_head o)) (keep _ _ (vgo_inj a))
    · cases a
  | land  =>
    have hn : n = 1 := hn
    subst hn
    dsimp only [vact1] at a
    split at a
    · rename_i b2 a2 S2
      refine lv_land (x := vi64 a2) (y := vi64 b2) (rest := S2.map (rv ad)) hx hb d ?_
      rw [← vi64_of (vi64 a2 &&& vi64 b2)]
      exact keep _ _ (vgo_inj a)
    · cases a
  | lor  =>
    have hn : n = 1 := hn
    subst hn
    dsimp only [vact1] at a
    split at a
    · rename_i b2 a2 S2
      refine lv_lor (x := vi64 a2) (y := vi64 b2) (rest := S2.map (rv ad)) hx hb d ?_
      rw [← vi64_of (vi64 a2 ||| vi64 b2)]
      exact keep _ _ (vgo_inj a)
    · cases a
  | lshr  =>
    have hn : n = 1 := hn
    subst hn
    dsimp only [vact1] at a
    split at a
    · rename_i b2 a2 S2
      exact lv_lshr (x := vi64 a2) (y := vi32 b2) (rest := S2.map (rv ad)) hx hb d (vi64_of _).symm (keep _ _ (vgo_inj a))
    · cases a
  | lshl  =>
    have hn : n = 1 := hn
    subst hn
    dsimp only [vact1] at a
    split at a
    · rename_i b2 a2 S2
      exact lv_lshl (x := vi64 a2) (y := vi32 b2) (rest := S2.map (rv ad)) hx hb d (vi64_of _).symm (keep _ _ (vgo_inj a))
    · cases a
  | lushr  =>
    have hn : n = 1 := hn
    subst hn
    dsimp only [vact1] at a
    split at a
    · rename_i b2 a2 S2
      exact lv_lushr (x := vi64 a2) (y := vi32 b2) (rest := S2.map (rv ad)) hx hb d (vi64_of _).symm (keep _ _ (vgo_inj a))
    · cases a
  | lcmp  =>
    have hn : n = 1 := hn
    subst hn
    dsimp only [vact1] at a
    split at a
    · rename_i b2 a2 S2
      refine W.lcmp (x := vi64 a2) (y := vi64 b2) (rest := S2.map (rv ad)) hx hb d ?_
      rw [vi64_cmp (ok_head (ok_tail o)) (ok_head o)]
      exact keep _ _ (vgo_inj a)
    · cases a
  | dup  =>
    have hn : n = 1 := hn
    subst hn
    dsimp only [vact1] at a
    split at a
    · rename_i k2 z2 S2
      split at a
      · rename_i hk
        exact lv_dup (va := rv ad (k2, z2)) (rest := S2.map (rv ad)) hx hb d (by rw [rv_cat2, if_neg (by show ¬ _ = 2; omega)]) (keep _ _ (vgo_inj a))
      · cases a
    · cases a
  | dup_x1  =>
    have hn : n = 1 := hn
    subst hn
    dsimp only [vact1] at a
    split at a
    · rename_i k2 z2 k3 z3 S2
      split at a
      · rename_i hk
        exact lv_dup_x1 (va := rv ad (k2, z2)) (vb := rv ad (k3, z3)) (rest := S2.map (rv ad)) hx hb d (by rw [rv_cat2, if_neg (by show ¬ _ = 2; omega)]) (by rw [rv_cat2, if_neg (by show ¬ _ = 2; omega)]) (keep _ _ (vgo_inj a))
      · cases a
    · cases a
  | dup2  =>
    have hn : n = 1 := hn
    subst hn
    dsimp only [vact1] at a
    split at a
    · rename_i k2 z2 k3 z3 S2
      split at a
      · rename_i hk
        exact lv_dup2_11 (va := rv ad (k2, z2)) (vb := rv ad (k3, z3)) (rest := S2.map (rv ad)) hx hb d (by rw [rv_cat2, if_neg (by show ¬ _ = 2; omega)]) (by rw [rv_cat2, if_neg (by show ¬ _ = 2; omega)]) (keep _ _ (vgo_inj a))
      · cases a
    · cases a
  | pop  =>
    have hn : n = 1 := hn
    subst hn
    dsimp only [vact1] at a
    split at a
    · rename_i k2 z2 S2
      split at a
      · rename_i hk
        exact lv_pop (va := rv ad (k2, z2)) (rest := S2.map (rv ad)) hx hb d (by rw [rv_cat2, if_neg (by show ¬ _ = 2; omega)]) (keep _ _ (vgo_inj a))
      · cases a
    · cases a
  | goto off =>
    have hn : n = 3 := hn
    subst hn
    obtain ⟨t, ht, e9⟩ := vjmp_inj a
    exact lv_goto hx hb d ht (keep _ _ e9)
  | ifCond cnd off =>
    have hn : n = 3 := hn
    subst hn
    cases cnd with
    | eq =>
      dsimp only [vact1] at a
      split at a
      · rename_i a2 S2
        have ca : c32 a2 := ok_head o
        obtain ⟨t, ht, ⟨e0, e9⟩ | ⟨e0, e9⟩⟩ := vbr_inj a
        · have e1 := of_decide_eq_true e0
          exact lv_if_eq (x := vi32 a2) (rest := S2.map (rv ad)) hx hb d ht (fun _ => keep _ _ e9) (fun z => absurd ((vi32_eq ca c32_0).mpr e1) z)
        · have e1 := of_decide_eq_false e0
          exact lv_if_eq (x := vi32 a2) (rest := S2.map (rv ad)) hx hb d ht (fun z => absurd ((vi32_eq ca c32_0).mp z) e1) (fun _ => keep _ _ e9)
      · cases a
    | ne =>
      dsimp only [vact1] at a
      split at a
      · rename_i a2 S2
        have ca : c32 a2 := ok_head o
        obtain ⟨t, ht, ⟨e0, e9⟩ | ⟨e0, e9⟩⟩ := vbr_inj a
        · have e1 := of_decide_eq_true e0
          exact lv_if_ne (x := vi32 a2) (rest := S2.map (rv ad)) hx hb d ht (fun _ => keep _ _ e9) (fun z => absurd ((vi32_eq ca c32_0).mp z) e1)
        · have e1 := of_decide_eq_false e0
          exact lv_if_ne (x := vi32 a2) (rest := S2.map (rv ad)) hx hb d ht (fun z => absurd (fun w => z ((vi32_eq ca c32_0).mpr w)) e1) (fun _ => keep _ _ e9)
      · cases a
    | lt =>
      dsimp only [vact1] at a
      split at a
      · rename_i a2 S2
        have ca : c32 a2 := ok_head o
        obtain ⟨t, ht, ⟨e0, e9⟩ | ⟨e0, e9⟩⟩ := vbr_inj a
        · have e1 := of_decide_eq_true e0
          exact lv_if_lt (x := vi32 a2) (rest := S2.map (rv ad)) hx hb d ht (fun _ => keep _ _ e9) (fun z => absurd ((vi32_lt ca c32_0).mpr e1) z)
        · have e1 := of_decide_eq_false e0
          exact lv_if_lt (x := vi32 a2) (rest := S2.map (rv ad)) hx hb d ht (fun z => absurd ((vi32_lt ca c32_0).mp z) e1) (fun _ => keep _ _ e9)
      · cases a
    | ge =>
      dsimp only [vact1] at a
      split at a
      · rename_i a2 S2
        have ca : c32 a2 := ok_head o
        obtain ⟨t, ht, ⟨e0, e9⟩ | ⟨e0, e9⟩⟩ := vbr_inj a
        · have e1 := of_decide_eq_true e0
          exact lv_if_ge (x := vi32 a2) (rest := S2.map (rv ad)) hx hb d ht (fun _ => keep _ _ e9) (fun z => absurd ((vi32_le c32_0 ca).mpr e1) z)
        · have e1 := of_decide_eq_false e0
          exact lv_if_ge (x := vi32 a2) (rest := S2.map (rv ad)) hx hb d ht (fun z => absurd ((vi32_le c32_0 ca).mp z) e1) (fun _ => keep _ _ e9)
      · cases a
    | gt =>
      dsimp only [vact1] at a
      split at a
      · rename_i a2 S2
        have ca : c32 a2 := ok_head o
        obtain ⟨t, ht, ⟨e0, e9⟩ | ⟨e0, e9⟩⟩ := vbr_inj a
        · have e1 := of_decide_eq_true e0
          exact lv_if_gt (x := vi32 a2) (rest := S2.map (rv ad)) hx hb d ht (fun _ => keep _ _ e9) (fun z => absurd ((vi32_lt c32_0 ca).mpr e1) z)
        · have e1 := of_decide_eq_false e0
          exact lv_if_gt (x := vi32 a2) (rest := S2.map (rv ad)) hx hb d ht (fun z => absurd ((vi32_lt c32_0 ca).mp z) e1) (fun _ => keep _ _ e9)
      · cases a
    | le =>
      dsimp only [vact1] at a
      split at a
      · rename_i a2 S2
        have ca : c32 a2 := ok_head o
        obtain ⟨t, ht, ⟨e0, e9⟩ | ⟨e0, e9⟩⟩ := vbr_inj a
        · have e1 := of_decide_eq_true e0
          exact lv_if_le (x := vi32 a2) (rest := S2.map (rv ad)) hx hb d ht (fun _ => keep _ _ e9) (fun z => absurd ((vi32_le ca c32_0).mpr e1) z)
        · have e1 := of_decide_eq_false e0
          exact lv_if_le (x := vi32 a2) (rest := S2.map (rv ad)) hx hb d ht (fun z => absurd ((vi32_le ca c32_0).mp z) e1) (fun _ => keep _ _ e9)
      · cases a
  | if_icmp cnd off =>
    have hn : n = 3 := hn
    subst hn
    cases cnd with
    | eq =>
      dsimp only [vact1] at a
      split at a
      · rename_i b2 a2 S2
        have cb : c32 b2 := ok_head o
        have ca : c32 a2 := ok_head (ok_tail o)
        obtain ⟨t, ht, ⟨e0, e9⟩ | ⟨e0, e9⟩⟩ := vbr_inj a
        · have e1 := of_decide_eq_true e0
          exact lv_icmp_eq (x := vi32 a2) (y := vi32 b2) (rest := S2.map (rv ad)) hx hb d ht (fun _ => keep _ _ e9) (fun z => absurd ((vi32_eq ca cb).mpr e1) z)
        · have e1 := of_decide_eq_false e0
          exact lv_icmp_eq (x := vi32 a2) (y := vi32 b2) (rest := S2.map (rv ad)) hx hb d ht (fun z => absurd ((vi32_eq ca cb).mp z) e1) (fun _ => keep _ _ e9)
      · cases a
    | ne =>
      dsimp only [vact1] at a
      split at a
      · rename_i b2 a2 S2
        have cb : c32 b2 := ok_head o
        have ca : c32 a2 := ok_head (ok_tail o)
        obtain ⟨t, ht, ⟨e0, e9⟩ | ⟨e0, e9⟩⟩ := vbr_inj a
        · have e1 := of_decide_eq_true e0
          exact lv_icmp_ne (x := vi32 a2) (y := vi32 b2) (rest := S2.map (rv ad)) hx hb d ht (fun _ => keep _ _ e9) (fun z => absurd ((vi32_eq ca cb).mp z) e1)
        · have e1 := of_decide_eq_false e0
          exact lv_icmp_ne (x := vi32 a2) (y := vi32 b2) (rest := S2.map (rv ad)) hx hb d ht (fun z => absurd (fun w => z ((vi32_eq ca cb).mpr w)) e1) (fun _ => keep _ _ e9)
      · cases a
    | lt =>
      dsimp only [vact1] at a
      split at a
      · rename_i b2 a2 S2
        have cb : c32 b2 := ok_head o
        have ca : c32 a2 := ok_head (ok_tail o)
        obtain ⟨t, ht, ⟨e0, e9⟩ | ⟨e0, e9⟩⟩ := vbr_inj a
        · have e1 := of_decide_eq_true e0
          exact lv_icmp_lt (x := vi32 a2) (y := vi32 b2) (rest := S2.map (rv ad)) hx hb d ht (fun _ => keep _ _ e9) (fun z => absurd ((vi32_lt ca cb).mpr e1) z)
        · have e1 := of_decide_eq_false e0
          exact lv_icmp_lt (x := vi32 a2) (y := vi32 b2) (rest := S2.map (rv ad)) hx hb d ht (fun z => absurd ((vi32_lt ca cb).mp z) e1) (fun _ => keep _ _ e9)
      · cases a
    | ge =>
      dsimp only [vact1] at a
      split at a
      · rename_i b2 a2 S2
        have cb : c32 b2 := ok_head o
        have ca : c32 a2 := ok_head (ok_tail o)
        obtain ⟨t, ht, ⟨e0, e9⟩ | ⟨e0, e9⟩⟩ := vbr_inj a
        · have e1 := of_decide_eq_true e0
          exact lv_icmp_ge (x := vi32 a2) (y := vi32 b2) (rest := S2.map (rv ad)) hx hb d ht (fun _ => keep _ _ e9) (fun z => absurd ((vi32_le cb ca).mpr e1) z)
        · have e1 := of_decide_eq_false e0
          exact lv_icmp_ge (x := vi32 a2) (y := vi32 b2) (rest := S2.map (rv ad)) hx hb d ht (fun z => absurd ((vi32_le cb ca).mp z) e1) (fun _ => keep _ _ e9)
      · cases a
    | gt =>
      dsimp only [vact1] at a
      split at a
      · rename_i b2 a2 S2
        have cb : c32 b2 := ok_head o
        have ca : c32 a2 := ok_head (ok_tail o)
        obtain ⟨t, ht, ⟨e0, e9⟩ | ⟨e0, e9⟩⟩ := vbr_inj a
        · have e1 := of_decide_eq_true e0
          exact lv_icmp_gt (x := vi32 a2) (y := vi32 b2) (rest := S2.map (rv ad)) hx hb d ht (fun _ => keep _ _ e9) (fun z => absurd ((vi32_lt cb ca).mpr e1) z)
        · have e1 := of_decide_eq_false e0
          exact lv_icmp_gt (x := vi32 a2) (y := vi32 b2) (rest := S2.map (rv ad)) hx hb d ht (fun z => absurd ((vi32_lt cb ca).mp z) e1) (fun _ => keep _ _ e9)
      · cases a
    | le =>
      dsimp only [vact1] at a
      split at a
      · rename_i b2 a2 S2
        have cb : c32 b2 := ok_head o
        have ca : c32 a2 := ok_head (ok_tail o)
        obtain ⟨t, ht, ⟨e0, e9⟩ | ⟨e0, e9⟩⟩ := vbr_inj a
        · have e1 := of_decide_eq_true e0
          exact lv_icmp_le (x := vi32 a2) (y := vi32 b2) (rest := S2.map (rv ad)) hx hb d ht (fun _ => keep _ _ e9) (fun z => absurd ((vi32_le ca cb).mpr e1) z)
        · have e1 := of_decide_eq_false e0
          exact lv_icmp_le (x := vi32 a2) (y := vi32 b2) (rest := S2.map (rv ad)) hx hb d ht (fun z => absurd ((vi32_le ca cb).mp z) e1) (fun _ => keep _ _ e9)
      · cases a
  | if_acmp cnd off =>
    have hn : n = 3 := hn
    subst hn
    cases cnd with
    | eq =>
      dsimp only [vact1] at a
      split at a
      · rename_i b2 a2 S2
        split at a
        · rename_i h2
          have inj := ro_inj (ad := ad) x2 x6 (va_T_lt hv.2.1 hv.2.2.2.2.2.2.2.1) o.1 (ok_head (ok_tail o)) (ok_head o) h2.1 h2.2
          obtain ⟨t, ht, ⟨e0, e9⟩ | ⟨e0, e9⟩⟩ := vbr_inj a
          · have e1 := of_decide_eq_true e0
            exact lv_acmp_eq (rx := ro ad a2) (ry := ro ad b2) (rest := S2.map (rv ad)) hx hb d ht (fun _ => keep _ _ e9) (fun z => absurd (inj.mpr e1) z)
          · have e1 := of_decide_eq_false e0
            exact lv_acmp_eq (rx := ro ad a2) (ry := ro ad b2) (rest := S2.map (rv ad)) hx hb d ht (fun z => absurd (inj.mp z) e1) (fun _ => keep _ _ e9)
        · cases a
      · cases a
    | ne =>
      dsimp only [vact1] at a
      split at a
      · rename_i b2 a2 S2
        split at a
        · rename_i h2
          have inj := ro_inj (ad := ad) x2 x6 (va_T_lt hv.2.1 hv.2.2.2.2.2.2.2.1) o.1 (ok_head (ok_tail o)) (ok_head o) h2.1 h2.2
          obtain ⟨t, ht, ⟨e0, e9⟩ | ⟨e0, e9⟩⟩ := vbr_inj a
          · have e1 := of_decide_eq_true e0
            exact lv_acmp_ne (rx := ro ad a2) (ry := ro ad b2) (rest := S2.map (rv ad)) hx hb d ht (fun _ => keep _ _ e9) (fun z => absurd (inj.mp z) e1)
          · have e1 := of_decide_eq_false e0
            exact lv_acmp_ne (rx := ro ad a2) (ry := ro ad b2) (rest := S2.map (rv ad)) hx hb d ht (fun z => absurd (fun w => z (inj.mpr w)) e1) (fun _ => keep _ _ e9)
        · cases a
      · cases a
  | tableswitch dd lo hi offs =>
    dsimp only [vact1] at a
    split at a
    · rename_i x S2
      have cx : c32 x := ok_head o
      split at a
      · rename_i hb2
        obtain ⟨t, ht, e9⟩ := vjmp_inj a
        exact lv_tableOut (x := vi32 x) (rest := S2.map (rv ad)) hx hb d (by rw [vi32_toInt cx]; exact hb2) ht (keep _ _ e9)
      · rename_i hb2
        split at a
        · rename_i off ho
          obtain ⟨t, ht, e9⟩ := vjmp_inj a
          exact lv_tableIn (x := vi32 x) (rest := S2.map (rv ad)) hx hb d (by rw [vi32_toInt cx]; omega) (by rw [vi32_toInt cx]; omega) (by rw [vi32_toInt cx]; exact ho) ht (keep _ _ e9)
        · cases a
    · cases a
  | getfield k =>
    have hn : n = 3 := hn
    subst hn
    dsimp only [vact1] at a
    split at a
    · rename_i r S2
      split at a
      · rename_i z hz
        split at a
        · rename_i e2
          exact sr_get C x1 o.1 hz e2 d (keep _ _ (vgo_inj a))
        · cases a
      · cases a
    · cases a
  | putfield k =>
    have hn : n = 3 := hn
    subst hn
    dsimp only [vact1] at a
    split at a
    · rename_i t9 v r S2
      split at a
      · rename_i z hz
        split at a
        · rename_i e2
          obtain ⟨e2, e3, e4, e5⟩ := e2
          subst e3
          have hz2 := tb_vfr hz
          exact sr_put (rest := S2.map (rv ad)) C x1 x2 x3 o.1 hz ⟨e2, e4, fun w => ⟨(e5 w).1, (e5 w).2, fin_nest hz w (e5 w).2⟩⟩ (fun w T Cn hc9 => fin_own _ hz2.1 _ hz2.2 w T Cn hc9) d (keepH _ _ _ (vgo_inj a) (u4 _ _ _ _ (Or.inr (by unfold vfc; omega))) (u5 _ _ _ _ (Or.inr (by unfold vfc; omega))))
        · cases a
      · cases a
    · cases a
  | getstatic k =>
    have hn : n = 3 := hn
    subst hn
    dsimp only [vact1] at a
    split at a
    · rename_i hk
      obtain ⟨hk1, hk2⟩ := hk
      subst hk2
      exact sr_stat C x3 x6 hk1 d (keep _ _ (vgo_inj a))
    · cases a
  | new k =>
    have hn : n = 3 := hn
    subst hn
    dsimp only [vact1] at a
    split at a
    · split at a
      · split at a <;> cases a
      · cases a
    · split at a
      · rename_i ci hc9
        have hg := vgo_inj a
        rw [hg] at hc hs
        have hc : (cells : Int) + (vnew h (20 + (ci : Int)) 0 (vn ci) 4 0 0 - h 4 0 0) ≤ (R.cells : Int) := hc
        have hs : (slots : Int) + (vnew h (20 + (ci : Int)) 0 (vn ci) 5 0 0 - h 5 0 0) ≤ (R.slots : Int) := hs
        rw [vnew_nc (by omega)] at hc
        rw [vnew_ns (by omega)] at hs
        exact sr_new C x1 x2 x3 o.1 hc9 d (by omega) (by omega) (fun q0 H1 y1 y2 y3 => keepN _ _ _ _ _ q0 H1 hg (by omega) o.2.2 y1 y2 y3)
      · cases a
  | newarray t =>
    have hn : n = 2 := hn
    subst hn
    cases t with
    | int =>
      dsimp only [vact1] at a
      split at a
      · rename_i n9 S2
        split at a
        · rename_i hn9
          have hg := vgo_inj a
          rw [hg] at hc hs
          have hc : (cells : Int) + (vnew h 1 n9 n9 4 0 0 - h 4 0 0) ≤ (R.cells : Int) := hc
          have hs : (slots : Int) + (vnew h 1 n9 n9 5 0 0 - h 5 0 0) ≤ (R.slots : Int) := hs
          rw [vnew_nc (by omega)] at hc
          rw [vnew_ns (by omega)] at hs
          exact sr_newa (k := 1) (rest := S2.map (rv ad)) C x1 x2 x3 o.1 (by simp) hn9 d (by omega) (by omega) (fun q0 H1 y1 y2 y3 => keepN _ _ _ _ _ q0 H1 hg hn9.1 (ok_tail o).2.2 y1 y2 y3)
        · cases a
      · cases a
    | boolean =>
      dsimp only [vact1] at a
      split at a
      · rename_i n9 S2
        split at a
        · rename_i hn9
          have hg := vgo_inj a
          rw [hg] at hc hs
          have hc : (cells : Int) + (vnew h 2 n9 n9 4 0 0 - h 4 0 0) ≤ (R.cells : Int) := hc
          have hs : (slots : Int) + (vnew h 2 n9 n9 5 0 0 - h 5 0 0) ≤ (R.slots : Int) := hs
          rw [vnew_nc (by omega)] at hc
          rw [vnew_ns (by omega)] at hs
          exact sr_newa (k := 2) (rest := S2.map (rv ad)) C x1 x2 x3 o.1 (by simp) hn9 d (by omega) (by omega) (fun q0 H1 y1 y2 y3 => keepN _ _ _ _ _ q0 H1 hg hn9.1 (ok_tail o).2.2 y1 y2 y3)
        · cases a
      · cases a
    | _ => exact nomatch (show (none : vA) = some (.inr (.inl q)) from a)
  | anewarray k =>
    have hn : n = 3 := hn
    subst hn
    dsimp only [vact1] at a
    split at a
    · rename_i n9 S2
      split at a
      · rename_i ki hk9
        split at a
        · rename_i hn9
          have hg := vgo_inj a
          rw [hg] at hc hs
          have hc : (cells : Int) + (vnew h ki n9 n9 4 0 0 - h 4 0 0) ≤ (R.cells : Int) := hc
          have hs : (slots : Int) + (vnew h ki n9 n9 5 0 0 - h 5 0 0) ≤ (R.slots : Int) := hs
          rw [vnew_nc (by omega)] at hc
          rw [vnew_ns (by omega)] at hs
          exact sr_newq (rest := S2.map (rv ad)) C x1 x2 x3 o.1 hk9 hn9 d (by omega) (by omega) (fun q0 H1 y1 y2 y3 => keepN _ _ _ _ _ q0 H1 hg hn9.1 (ok_tail o).2.2 y1 y2 y3)
        · cases a
      · cases a
    · cases a
  | arraylength  =>
    have hn : n = 1 := hn
    subst hn
    dsimp only [vact1] at a
    split at a
    · rename_i r S2
      split at a
      · rename_i e2
        exact sr_len (rest := S2.map (rv ad)) C x1 x3 x6 x7 o.1 e2 d (keep _ _ (vgo_inj a))
      · cases a
    · cases a
  | iaload  =>
    have hn : n = 1 := hn
    subst hn
    dsimp only [vact1] at a
    split at a
    · rename_i i r S2
      split at a
      · rename_i e2
        rcases e2.1 with e3 | e3
        · exact sr_ild (rest := S2.map (rv ad)) C x1 o.1 e3 e2.2 (ok_head o) d (keep _ _ (vgo_inj a))
        · exact sr_scr (rest := S2.map (rv ad)) C x3 x7 o.1 e3 e2.2 (ok_head o) d (keep _ _ (vgo_inj a))
      · cases a
    · cases a
  | baload  =>
    have hn : n = 1 := hn
    subst hn
    dsimp only [vact1] at a
    split at a
    · rename_i i r S2
      split at a
      · rename_i e2
        exact sr_bld (rest := S2.map (rv ad)) C x1 o.1 e2.1 e2.2 (ok_head o) d (keep _ _ (vgo_inj a))
      · cases a
    · cases a
  | aaload  =>
    have hn : n = 1 := hn
    subst hn
    dsimp only [vact1] at a
    split at a
    · rename_i i r S2
      split at a
      · rename_i e2
        exact sr_ald (rest := S2.map (rv ad)) C x1 o.1 e2.1 e2.2 (ok_head o) d (keep _ _ (vgo_inj a))
      · cases a
    · cases a
  | iastore  =>
    have hn : n = 1 := hn
    subst hn
    dsimp only [vact1] at a
    split at a
    · rename_i v i r S2
      split at a
      · rename_i e2
        exact sr_ist (rest := S2.map (rv ad)) C x1 x2 x3 o.1 e2.1 e2.2 (ok_head (ok_tail o)) d (keepH _ _ _ (vgo_inj a) (u4 _ _ _ _ (Or.inl rfl)) (u5 _ _ _ _ (Or.inl rfl)))
      · cases a
    · cases a
  | bastore  =>
    have hn : n = 1 := hn
    subst hn
    dsimp only [vact1] at a
    split at a
    · rename_i v i r S2
      split at a
      · rename_i e2
        exact sr_bst (rest := S2.map (rv ad)) C x1 x2 x3 o.1 e2.1 e2.2.1 e2.2.2 (ok_head (ok_tail o)) d (keepH _ _ _ (vgo_inj a) (u4 _ _ _ _ (Or.inl rfl)) (u5 _ _ _ _ (Or.inl rfl)))
      · cases a
    · cases a
  | aastore  =>
    have hn : n = 1 := hn
    subst hn
    dsimp only [vact1] at a
    split at a
    · rename_i v i r S2
      split at a
      · rename_i e2
        exact sr_ast (rest := S2.map (rv ad)) C x1 x2 x3 o.1 e2.1 e2.2 (ok_head (ok_tail o)) d (keepH _ _ _ (vgo_inj a) (u4 _ _ _ _ (Or.inl rfl)) (u5 _ _ _ _ (Or.inl rfl)))
      · cases a
    · cases a
  | checkcast k =>
    have hn : n = 3 := hn
    subst hn
    dsimp only [vact1] at a
    split at a
    · rename_i r S2
      split at a
      · rename_i ci hk9
        split at a
        · rename_i e2
          exact sr_cast (rest := S2.map (rv ad)) C x1 o.1 hk9 e2 d (keep _ _ (vgo_inj a))
        · cases a
      · cases a
    · cases a
  | ireturn  =>
    have hn : n = 1 := hn
    subst hn
    dsimp only [vact1] at a
    split at a
    · split at a <;> cases a
    · cases a
  | areturn  =>
    have hn : n = 1 := hn
    subst hn
    dsimp only [vact1] at a
    split at a
    · split at a <;> cases a
    · cases a
  | return_  =>
    have hn : n = 1 := hn
    subst hn
    dsimp only [vact1] at a
    split at a
    · split at a <;> cases a
    · cases a
  | invokevirtual k =>
    have hn : n = 3 := hn
    subst hn
    dsimp only [vact1] at a
    split at a
    · split at a
      · split at a
        · exact (vcall_no a).elim
        · cases a
      · cases a
    · cases a
  | invokespecial k =>
    have hn : n = 3 := hn
    subst hn
    dsimp only [vact1] at a
    split at a
    · rename_i y hy
      split at a
      · rename_i b2 rest hd
        split at a
        · cases a
        · rename_i hb0
          split at a
          · rename_i h6
            split at a
            · rename_i hr9
              exact snd_obj C x4 hy h6 hd hb0 hr9 d (keep _ _ (vgo_inj a))
            · cases a
          · split at a
            · exact (vcall_no a).elim
            · cases a
      · cases a
    · cases a
  | invokestatic k =>
    have hn : n = 3 := hn
    subst hn
    dsimp only [vact1] at a
    split at a
    · rename_i y hy
      split at a
      · rename_i h7
        split at a
        · rename_i n9 dp9 b9 sp9 a9 S9
          split at a
          · rename_i ck
            exact sr_copy C x1 x2 x3 x4.1 o.1 hy h7 ck ⟨ok_head o, ok_head (ok_tail (ok_tail (ok_tail o))), ok_head (ok_tail o)⟩ d (keepH _ _ _ (vgo_inj a) (vcp_nk (by decide)) (vcp_nk (by decide)))
          · cases a
        · cases a
      · split at a
        · rename_i h8
          split at a
          · rename_i b2 a2 S2
            split at a
            · rename_i ck
              exact snd_max C x4 hy h8 (ok_head (ok_tail o)) (ok_head o) ck (cle (by rw [vgo_inj a])) (sle (by rw [vgo_inj a])) d (keep _ _ (vgo_inj a))
            · cases a
          · cases a
        · split at a
          · rename_i h9
            split at a
            · rename_i b2 a2 S2
              split at a
              · rename_i ck
                exact snd_min C x4 hy h9 (ok_head (ok_tail o)) (ok_head o) ck (cle (by rw [vgo_inj a])) (sle (by rw [vgo_inj a])) d (keep _ _ (vgo_inj a))
              · cases a
            · cases a
          · split at a
            · exact (vcall_no a).elim
            · cases a
    · cases a
  | _ => exact nomatch (show (none : vA) = some (.inr (.inl q)) from a)
