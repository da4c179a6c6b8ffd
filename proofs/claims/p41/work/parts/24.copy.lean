theorem rv_cat2 {ad : Nat → Nat} (v : vv) : (rv ad v).category = if v.1 = 2 then 2 else 1 := by
  obtain ⟨k, z⟩ := v
  match k with
  | 0 => rfl
  | 1 =>
    show (va_rf (ro ad z)).category = _
    unfold va_rf
    split <;> rfl
  | 2 => rfl
  | _ + 3 => rfl
theorem cat_sum {ad : Nat → Nat} (S : List vv) : ((S.map (rv ad)).map fun v => v.category).sum = vcat S := by
  unfold vcat
  rw [List.map_map]
  congr 1
  exact List.map_congr_left fun v _ => rv_cat2 v
theorem castAll : ∀ ci, ci < 14 → okw (.castable (vcn ci) "java/lang/Object")
  | 0, _ => (okw_t (in_6 (List.mem_of_getElem? (i := 198) rfl)) rfl)
  | 1, _ => (okw_t (in_6 (List.mem_of_getElem? (i := 200) rfl)) rfl)
  | 2, _ => (okw_t (in_6 (List.mem_of_getElem? (i := 207) rfl)) rfl)
  | 3, _ => (okw_t (in_6 (List.mem_of_getElem? (i := 197) rfl)) rfl)
  | 4, _ => (okw_t (in_6 (List.mem_of_getElem? (i := 199) rfl)) rfl)
  | 5, _ => (okw_t (in_6 (List.mem_of_getElem? (i := 192) rfl)) rfl)
  | 6, _ => (okw_t (in_6 (List.mem_of_getElem? (i := 193) rfl)) rfl)
  | 7, _ => (okw_t (in_6 (List.mem_of_getElem? (i := 202) rfl)) rfl)
  | 8, _ => (okw_t (in_6 (List.mem_of_getElem? (i := 201) rfl)) rfl)
  | 9, _ => (okw_t (in_6 (List.mem_of_getElem? (i := 206) rfl)) rfl)
  | 10, _ => (okw_t (in_6 (List.mem_of_getElem? (i := 196) rfl)) rfl)
  | 11, _ => (okw_t (in_6 (List.mem_of_getElem? (i := 195) rfl)) rfl)
  | 12, _ => (okw_t (in_6 (List.mem_of_getElem? (i := 208) rfl)) rfl)
  | 13, _ => (okw_t (in_6 (List.mem_of_getElem? (i := 194) rfl)) rfl)
  | n + 14, h => absurd h (by omega)
section CPY
variable {l : Launch} {D : va_G} {cA : Nat → ClassId} {base t0 b0 L0 : Nat} {xs : Nat → Int32} {p : Program} {e : Env} {R : Room} {s : State} {m : MethodId} {args : Array Value} {below : List Frame} {meth : Method} {c : Code} {M : vM}
variable {H : Heap} {locs : List Loc} {cells slots : Nat} {Q : State → Prop} {pc : Nat} {ls : Array Slot} {S : List vv} {ad : Nat → Nat} {h : vH}
theorem sr_copy (C : Cx l D cA base t0 b0 L0 xs p R s m args meth c M) (hP : va_P D vwCl (wo cA ad h) H) (hD : va_D (fun q => base ≤ q) (wo cA ad h)) (hS : va_S (fun q => base ≤ q) s.heap H locs) (hl : ls.size = vmL M) (o : hok L0 xs h) {k : Nat} {y : Nat × Nat × Nat × vM} (hv : vrs (vmC M) k = some y) (hk : y.1 = 7) {a sp b dp n : Int}
    (ck : 0 ≤ n ∧ 0 ≤ sp ∧ 0 ≤ dp ∧ sp + n ≤ h 1 a 0 ∧ dp + n ≤ h 1 b 0 ∧ vcpok h a sp b n ∧ vcat S ≤ 8 ∧ 1 ≤ vmF M ∧ 40 ≤ vmW M) (cn : c32 n ∧ c32 sp ∧ c32 dp) (d : decode (vmB M) pc = .ok (.invokestatic k, 3))
    (K : ∀ (H1 : Heap) (locs1 : List Loc), va_P D vwCl (wo cA ad (vcp h a sp b dp n)) H1 → va_D (fun q => base ≤ q) (wo cA ad (vcp h a sp b dp n)) → va_S (fun q => base ≤ q) s.heap H1 locs1 → W p l e R s m args below meth c H1 locs1 cells slots Q (F0 m (pc + 3) ls (S.map (rv ad)))) : W p l e R s m args below meth c H locs cells slots Q (F0 m pc ls (rv ad (0, n) :: rv ad (0, dp) :: rv ad (1, b) :: rv ad (0, sp) :: rv ad (1, a) :: S.map (rv ad))) := by
  obtain ⟨hw, -, -⟩ := tg_vrs hv
  rw [hk] at hw
  obtain ⟨hx, hb, hr, hml, hown, hts, -, -, -, hfr, hlo, -, hK, -⟩ := C
  have w1 := hts _ (hw _ List.mem_cons_self)
  have w2 := hts _ (hw _ (List.mem_cons_of_mem _ List.mem_cons_self))
  have w3 := hts _ (hw _ (List.mem_cons_of_mem _ (List.mem_cons_of_mem _ List.mem_cons_self)))
  have w4 := hts _ (hw _ (List.mem_cons_of_mem _ (List.mem_cons_of_mem _ (List.mem_cons_of_mem _ List.mem_cons_self))))
  obtain ⟨c1, c2, c3, c4, c5, c6, c7, c8, c9⟩ := ck
  have ng : ∀ z : Int, c32 z → 0 ≤ z → ¬ vi32 z < 0 := fun z q1 q2 => by rw [show (0 : Int32) = vi32 0 from rfl, vi32_lt q1 c32_0]; omega
  have hk3 := vcpok_k c6
  have ha3 := hok_arr o hk3.1.1 hk3.1.2
  have hb3 := hok_arr o (r := b) (by omega) (by omega)
  have hata := wo_at (cA := cA) (ad := ad) ha3.1 ha3.2
  have hatb := wo_at (cA := cA) (ad := ad) hb3.1 hb3.2
  have hloc : ((S.map (rv ad)).map fun v => v.category).sum + (nativeFrameWords "java/lang/System" "arraycopy" 5 + 11) ≤ R.locals := by
    rw [cat_sum, hlo, show nativeFrameWords "java/lang/System" "arraycopy" 5 = 7 by decide]; omega
  have cl : ∀ z : Int, c32 z → (vi32 z).toNatClampNeg = z.toNat := fun z q => vi32_clamp q
  rw [rv_ref (r := a) (by omega), rv_ref (r := b) (by omega)]
  rcases c6 with ⟨e1, e2⟩ | ⟨e1, e2, hel⟩ | ⟨e1, e2, cc, hcc, hel⟩
  · rw [ce_int (k := 1) (Or.inl rfl) e1] at hata
    rw [ce_int (k := 1) (Or.inl rfl) e2] at hatb
    rw [wo_vcp hb3.1 (ce_cpi (k := 1) (Or.inl rfl) e2 c1 c2 c3 c4 c5)] at K
    refine va_copyi hx hb (hml.trans hl.symm) hown w1 w2 w3 w4 hK hP hD hS (a - 3).toNat (b - 3).toNat 0 0 hata hatb (kt_at (k := 1) (by decide)) (kt_at (k := 1) (by decide)) rfl (ng _ cn.2.1 c2) (ng _ cn.2.2 c3) (ng _ cn.1 c1) ?_ ?_ (fun _ _ => rfl) (by omega) hloc d ?_
    · rw [cl _ cn.2.1, cl _ cn.1]; omega
    · rw [cl _ cn.2.2, cl _ cn.1]; omega
    · rw [cl _ cn.2.1, cl _ cn.1, cl _ cn.2.2]; exact K
  · rw [ce_ref (k := 4) ⟨by decide, by decide⟩ e1] at hata
    rw [ce_ref (k := 4) ⟨by decide, by decide⟩ e2] at hatb
    rw [wo_vcp hb3.1 (ce_cpr (k := 4) ⟨by decide, by decide⟩ e2 c1 c2 c3 c4 c5)] at K
    refine va_copyq (C := vcn 5) hx hb (hml.trans hl.symm) hown w1 w2 w3 w4 hK hP hD hS (a - 3).toNat (b - 3).toNat 3 3 hata hatb (kt_at (k := 4) (by decide)) (kt_at (k := 4) (by decide)) (ng _ cn.2.1 c2) (ng _ cn.2.2 c3) (ng _ cn.1 c1) ?_ ?_ ?_ ?_ (by omega) hloc d ?_
    · rw [cl _ cn.2.1, cl _ cn.1]; omega
    · rw [cl _ cn.2.2, cl _ cn.1]; omega
    · intro i hi z hz
      rw [cl _ cn.1] at hi
      rw [cl _ cn.2.1] at hz
      unfold fR mk at hz
      rw [if_pos (by omega)] at hz
      have e9 : ((sp.toNat + i : Nat) : Int) = sp + (i : Int) := by omega
      rw [e9] at hz
      have hz : (if h 2 a (sp + (i : Int)) = 0 then none else some (ad (h 2 a (sp + (i : Int))).toNat)) = some z := hz
      rcases hel (i : Int) (by omega) (by omega) with q | q
      · rw [if_pos q] at hz; cases hz
      · have z3 := hok_cls (ci := 5) o q
        rw [if_neg (by omega)] at hz
        rw [← Option.some.inj hz]
        exact wo_cell hP hK o (by decide) q
    · intro comp c0 q1 q2
      rw [Option.some.inj (q1.symm.trans q2)]
      exact va_asg _ _
    · rw [cl _ cn.2.1, cl _ cn.1, cl _ cn.2.2]; exact K
  · rw [ce_ref (k := 6) ⟨by decide, by decide⟩ e1] at hata
    rw [ce_ref (k := 6) ⟨by decide, by decide⟩ e2] at hatb
    rw [wo_vcp hb3.1 (ce_cpr (k := 6) ⟨by decide, by decide⟩ e2 c1 c2 c3 c4 c5)] at K
    refine va_copyq (C := vcn cc) hx hb (hml.trans hl.symm) hown w1 w2 w3 w4 hK hP hD hS (a - 3).toNat (b - 3).toNat 5 5 hata hatb (kt_at (k := 6) (by decide)) (kt_at (k := 6) (by decide)) (ng _ cn.2.1 c2) (ng _ cn.2.2 c3) (ng _ cn.1 c1) ?_ ?_ ?_ ?_ (by omega) hloc d ?_
    · rw [cl _ cn.2.1, cl _ cn.1]; omega
    · rw [cl _ cn.2.2, cl _ cn.1]; omega
    · intro i hi z hz
      rw [cl _ cn.1] at hi
      rw [cl _ cn.2.1] at hz
      unfold fR mk at hz
      rw [if_pos (by omega)] at hz
      have e9 : ((sp.toNat + i : Nat) : Int) = sp + (i : Int) := by omega
      rw [e9] at hz
      have hz : (if h 2 a (sp + (i : Int)) = 0 then none else some (ad (h 2 a (sp + (i : Int))).toNat)) = some z := hz
      rcases hel (i : Int) (by omega) (by omega) with q | q
      · rw [if_pos q] at hz; cases hz
      · have z3 := hok_cls (ci := cc) o q
        rw [if_neg (by omega)] at hz
        rw [← Option.some.inj hz]
        exact wo_cell hP hK o hcc q
    · intro comp c0 q1 q2
      obtain ⟨c3, c4, f1, f2, f3⟩ := Cond.castable_spec (hts _ (castAll cc hcc))
      rw [Option.some.inj (q1.symm.trans f2), Option.some.inj (q2.symm.trans f1)]
      exact f3
    · rw [cl _ cn.2.1, cl _ cn.1, cl _ cn.2.2]; exact K
end CPY
