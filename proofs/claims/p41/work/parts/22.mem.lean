theorem rv_ref {ad : Nat → Nat} {r : Int} (h : ¬ r = 0) : rv ad (1, r) = .ref (ad r.toNat) := by
  show va_rf (ro ad r) = _
  unfold ro
  rw [if_neg h]
  rfl
theorem rv_null {ad : Nat → Nat} : rv ad (1, 0) = .null := rfl
def vtok (ty : FieldType) : Bool := match ty with
  | .int => true
  | .boolean => true
  | .long => true
  | .object _ => true
  | .array _ => true
  | _ => false
theorem vtok_all : ∀ ci, ci < 14 → ∀ j, j < vn ci → vtok (vtyp ci j) = true := by decide +kernel
theorem fits_ok {ad : Nat → Nat} {ty : FieldType} {v : Int} (ht : vtok ty = true) (hb : ty = FieldType.boolean → v = 0 ∨ v = 1) : narrow ty (rv ad (vkd ty, v)) = rv ad (vkd ty, v) ∧ fits ty (rv ad (vkd ty, v)) = true := by
  cases ty with
  | int => exact ⟨rfl, rfl⟩
  | boolean =>
    rcases hb rfl with q | q
    · subst q
      show narrow .boolean (.int (vi32 0)) = .int (vi32 0) ∧ fits .boolean (.int (vi32 0)) = true
      exact ⟨by decide, by decide⟩
    · subst q
      show narrow .boolean (.int (vi32 1)) = .int (vi32 1) ∧ fits .boolean (.int (vi32 1)) = true
      exact ⟨by decide, by decide⟩
  | long => exact ⟨rfl, rfl⟩
  | object n =>
    show narrow (.object n) (va_rf (ro ad v)) = va_rf (ro ad v) ∧ fits (.object n) (va_rf (ro ad v)) = true
    unfold va_rf
    split <;> exact ⟨rfl, rfl⟩
  | array n =>
    show narrow (.array n) (va_rf (ro ad v)) = va_rf (ro ad v) ∧ fits (.array n) (va_rf (ro ad v)) = true
    unfold va_rf
    split <;> exact ⟨rfl, rfl⟩
  | _ => exact absurd ht (by decide)
theorem narrow_bool {v : Int} (h : v = 0 ∨ v = 1) : vp_nar .boolean (vi32 v) = vi32 v := by
  rcases h with q | q
  · subst q; decide
  · subst q; decide
section MEM
variable {l : Launch} {D : va_G} {cA : Nat → ClassId} {base t0 b0 L0 : Nat} {xs : Nat → Int32} {p : Program} {e : Env} {R : Room} {s : State} {m : MethodId} {args : Array Value} {below : List Frame} {meth : Method} {c : Code} {M : vM}
variable {H : Heap} {locs : List Loc} {cells slots : Nat} {Q : State → Prop} {pc : Nat} {ls : Array Slot} {rest : List Value} {ad : Nat → Nat} {h : vH} {r : Int}
/-- the field's link, by the table -/
theorem sr_link (C : Cx l D cA base t0 b0 L0 xs p R s m args meth c M) {k : Nat} {q : Nat × Nat × Bool} (hf : vfr (vmC M) k = some q) {Cn : String} {T : u_T} (hc : vwCl[q.1]? = some (Cn, T, vn q.1)) : ∃ ref : String, (∀ x, s.fieldFound? (T q.2.1).1 (T q.2.1).2.1 (T q.2.1).2.2.1 = some x → s.fieldFound? ref (T q.2.1).2.1 (T q.2.1).2.2.1 = some x) ∧ ((q.2.2 = true ∧ (Cond.fieldLinkNest (vcn (vmC M)) k ref (T q.2.1).2.1 (T q.2.1).2.2.1 "PaneLayers").before args s = true) ∨ (Cond.fieldLink (vcn (vmC M)) k ref (T q.2.1).2.1 (T q.2.1).2.2.1).before args s = true) := by
  obtain ⟨hx, hb, hr, hml, hown, hts, -⟩ := C
  have hw := hts _ (tg_vfr hf)
  have hT : fwn q = T := by unfold fwn; rw [hc]
  unfold fword at hw
  rw [hT] at hw
  refine ⟨fref (vmC M) k q, ?_, ?_⟩
  · unfold fref
    split
    · rename_i z
      intro x hx2
      rw [z.1, z.2] at hf
      have hq : q = (0, 0, false) := (Option.some.inj (hf.symm.trans (rfl : vfr 0 63 = some (0, 0, false))))
      subst hq
      have hT2 : T = TJx4a65c := by
        have z2 : vwCl[0]? = some (RJx4a65c, TJx4a65c, 3) := rfl
        have z3 := Option.some.inj (hc.symm.trans z2)
        exact congrArg (fun y => y.2.1) z3
      subst hT2
      exact u_same (hts _ tg_mod) x hx2
    · rw [hT]; exact fun _ z => z
  · split at hw
    · rename_i z; exact Or.inl ⟨z, hw⟩
    · exact Or.inr hw
theorem sr_get (C : Cx l D cA base t0 b0 L0 xs p R s m args meth c M) (hP : va_P D vwCl (wo cA ad h) H) (o : hok L0 xs h) {k : Nat} {q : Nat × Nat × Bool} (hf : vfr (vmC M) k = some q) (e2 : h 0 r 0 = 20 + (q.1 : Int)) (d : decode (vmB M) pc = .ok (.getfield k, 3))
    (K : W p l e R s m args below meth c H locs cells slots Q (F0 m (pc + 3) ls (rv ad (vkd (vtyp q.1 q.2.1), h (vfc q.1 q.2.1) r 0) :: rest))) : W p l e R s m args below meth c H locs cells slots Q (F0 m pc ls (rv ad (1, r) :: rest)) := by
  have hq := tb_vfr hf
  obtain ⟨Cn, T, hc, hty, hnm, hws, hin, hini, hcn, hfin⟩ := gc q.1 hq.1
  obtain ⟨ref, hsame, hl⟩ := sr_link C hf hc
  obtain ⟨hx, hb, hr, hml, hown, hts, -, -, -, -, -, -, hK, -⟩ := C
  have hr3 := hok_cls o e2
  have hat := wo_at (cA := cA) (ad := ad) hr3.1 hr3.2
  rw [ce_cls e2] at hat
  rw [rv_ref (by omega)]
  rcases hl with ⟨-, hl⟩ | hl
  · exact va_getN hx hb (Ts := u_ws Cn T (vn q.1)) (fun w hw => hts w (hws w hw)) (fun w h => h) hown hK hP (r - 3).toNat hat hc q.2.1 hq.2 hl hsame (flds_at hq.2) d K
  · exact va_get hx hb (Ts := u_ws Cn T (vn q.1)) (fun w hw => hts w (hws w hw)) (fun w h => h) hown hK hP (r - 3).toNat hat hc q.2.1 hq.2 hl hsame (flds_at hq.2) d K
theorem sr_put (C : Cx l D cA base t0 b0 L0 xs p R s m args meth c M) (hP : va_P D vwCl (wo cA ad h) H) (hD : va_D (fun q => base ≤ q) (wo cA ad h)) (hS : va_S (fun q => base ≤ q) s.heap H locs) (o : hok L0 xs h) {k : Nat} {q : Nat × Nat × Bool} {v : Int} (hf : vfr (vmC M) k = some q)
    (e2 : h 0 r 0 = 20 + (q.1 : Int) ∧ (vtyp q.1 q.2.1 = FieldType.boolean → v = 0 ∨ v = 1) ∧ (vfin q.1 q.2.1 = true → (vmY M).name = "<init>" ∧ vmC M = q.1 ∧ q.2.2 = false)) (hdec : vfin q.1 q.2.1 = true → ∀ T : u_T, ∀ Cn : String, vwCl[q.1]? = some (Cn, T, vn q.1) → (T q.2.1).1 = Cn) (d : decode (vmB M) pc = .ok (.putfield k, 3))
    (K : ∀ (H1 : Heap) (locs1 : List Loc), va_P D vwCl (wo cA ad (vup h (vfc q.1 q.2.1) r 0 v)) H1 → va_D (fun q => base ≤ q) (wo cA ad (vup h (vfc q.1 q.2.1) r 0 v)) → va_S (fun q => base ≤ q) s.heap H1 locs1 → W p l e R s m args below meth c H1 locs1 cells slots Q (F0 m (pc + 3) ls rest)) : W p l e R s m args below meth c H locs cells slots Q (F0 m pc ls (rv ad (vkd (vtyp q.1 q.2.1), v) :: rv ad (1, r) :: rest)) := by
  have hq := tb_vfr hf
  obtain ⟨Cn, T, hc, hty, hnm, hws, hin, hini, hcn, hfin⟩ := gc q.1 hq.1
  obtain ⟨ref, hsame, hl⟩ := sr_link C hf hc
  obtain ⟨hx, hb, hr, hml, hown, hts, -, hname, -, -, -, -, hK, -⟩ := C
  have hr3 := hok_cls o e2.1
  have hat := wo_at (cA := cA) (ad := ad) hr3.1 hr3.2
  rw [ce_cls e2.1] at hat
  rw [wo_vup (by unfold vfc; omega) hr3.1 (ce_putf e2.1 hq.2)] at K
  have hfit := fits_ok (ad := ad) (v := v) (vtok_all q.1 hq.1 q.2.1 hq.2) e2.2.1
  rw [rv_ref (r := r) (by omega)]
  by_cases hf2 : vfin q.1 q.2.1 = true
  · obtain ⟨n1, n2, n3⟩ := e2.2.2 hf2
    rcases hl with ⟨hl0, hl⟩ | hl
    · rw [n3] at hl0; cases hl0
    · exact va_putF hx hb (Ts := u_ws Cn T (vn q.1)) (fun w hw => hts w (hws w hw)) (fun w h => h) (vtyp q.1) hty hnm hown hK hP hD hS (r - 3).toNat hat hc q.2.1 hq.2 hl hsame (by rw [← hfin]; exact hf2) (hname n1) (by rw [hdec hf2 T Cn hc, hcn, n2]) (hty _ hq.2) hfit.1 hfit.2 (by rw [flds_len]; exact hq.2) d K
  · have hf3 : (T q.2.1).2.2.2 = false := by rw [← hfin]; simpa using hf2
    rcases hl with ⟨-, hl⟩ | hl
    · exact va_putN hx hb (Ts := u_ws Cn T (vn q.1)) (fun w hw => hts w (hws w hw)) (fun w h => h) (vtyp q.1) hty hnm hown hK hP hD hS (r - 3).toNat hat hc q.2.1 hq.2 hl hsame hf3 (hty _ hq.2) hfit.1 hfit.2 (by rw [flds_len]; exact hq.2) d K
    · exact va_put hx hb (Ts := u_ws Cn T (vn q.1)) (fun w hw => hts w (hws w hw)) (fun w h => h) (vtyp q.1) hty hnm hown hK hP hD hS (r - 3).toNat hat hc q.2.1 hq.2 hl hsame hf3 (hty _ hq.2) hfit.1 hfit.2 (by rw [flds_len]; exact hq.2) d K
theorem fin_own : ∀ ci, ci < 14 → ∀ j, j < vn ci → vfin ci j = true → ∀ (T : u_T) (Cn : String), vwCl[ci]? = some (Cn, T, vn ci) → (T j).1 = Cn := by
  intro ci h j hj hf T Cn hc
  have key : ∀ ci, ci < 14 → ∀ j, j < vn ci → vfin ci j = true → (match vwCl[ci]? with | some q => decide ((q.2.1 j).1 = q.1) | none => true) = true := by decide +kernel
  have z := key ci h j hj hf
  rw [hc] at z
  exact of_decide_eq_true z
theorem fin_nest {o k : Nat} {q : Nat × Nat × Bool} (h : vfr o k = some q) : vfin q.1 q.2.1 = true → o = q.1 → q.2.2 = false := by
  unfold vfr at h
  split at h
  · exact (by decide +kernel : ∀ e ∈ vfrT_0, vfin e.2.1 e.2.2.1 = true → 0 = e.2.1 → e.2.2.2 = false) _ (lk_mem h)
  · exact (by decide +kernel : ∀ e ∈ vfrT_1, vfin e.2.1 e.2.2.1 = true → 1 = e.2.1 → e.2.2.2 = false) _ (lk_mem h)
  · exact (by decide +kernel : ∀ e ∈ vfrT_2, vfin e.2.1 e.2.2.1 = true → 2 = e.2.1 → e.2.2.2 = false) _ (lk_mem h)
  · exact (by decide +kernel : ∀ e ∈ vfrT_3, vfin e.2.1 e.2.2.1 = true → 3 = e.2.1 → e.2.2.2 = false) _ (lk_mem h)
  · exact (by decide +kernel : ∀ e ∈ vfrT_4, vfin e.2.1 e.2.2.1 = true → 4 = e.2.1 → e.2.2.2 = false) _ (lk_mem h)
  · exact (by decide +kernel : ∀ e ∈ vfrT_5, vfin e.2.1 e.2.2.1 = true → 5 = e.2.1 → e.2.2.2 = false) _ (lk_mem h)
  · exact (by decide +kernel : ∀ e ∈ vfrT_6, vfin e.2.1 e.2.2.1 = true → 6 = e.2.1 → e.2.2.2 = false) _ (lk_mem h)
  · exact (by decide +kernel : ∀ e ∈ vfrT_7, vfin e.2.1 e.2.2.1 = true → 7 = e.2.1 → e.2.2.2 = false) _ (lk_mem h)
  · exact (by decide +kernel : ∀ e ∈ vfrT_8, vfin e.2.1 e.2.2.1 = true → 8 = e.2.1 → e.2.2.2 = false) _ (lk_mem h)
  · exact (by decide +kernel : ∀ e ∈ vfrT_9, vfin e.2.1 e.2.2.1 = true → 9 = e.2.1 → e.2.2.2 = false) _ (lk_mem h)
  · exact (by decide +kernel : ∀ e ∈ vfrT_10, vfin e.2.1 e.2.2.1 = true → 10 = e.2.1 → e.2.2.2 = false) _ (lk_mem h)
  · exact (by decide +kernel : ∀ e ∈ vfrT_11, vfin e.2.1 e.2.2.1 = true → 11 = e.2.1 → e.2.2.2 = false) _ (lk_mem h)
  · exact (by decide +kernel : ∀ e ∈ vfrT_12, vfin e.2.1 e.2.2.1 = true → 12 = e.2.1 → e.2.2.2 = false) _ (lk_mem h)
  · exact (by decide +kernel : ∀ e ∈ vfrT_13, vfin e.2.1 e.2.2.1 = true → 13 = e.2.1 → e.2.2.2 = false) _ (lk_mem h)
  · exact (by decide +kernel : ∀ e ∈ vfrT_21, vfin e.2.1 e.2.2.1 = true → 21 = e.2.1 → e.2.2.2 = false) _ (lk_mem h)
  · cases h
theorem kt_at {k : Nat} (hk : 1 ≤ k ∧ k ≤ 6) : (ktys cA)[k - 1]? = some (cA k, kty k) := by
  rcases (show k = 1 ∨ k = 2 ∨ k = 3 ∨ k = 4 ∨ k = 5 ∨ k = 6 by omega) with z | z | z | z | z | z <;> (subst z; rfl)
theorem sr_ild (C : Cx l D cA base t0 b0 L0 xs p R s m args meth c M) (hP : va_P D vwCl (wo cA ad h) H) (o : hok L0 xs h) {i : Int} (e2 : h 0 r 0 = 1) (hi : vin h r i = true) (ci : c32 i) (d : decode (vmB M) pc = .ok (.iaload, 1))
    (K : W p l e R s m args below meth c H locs cells slots Q (F0 m (pc + 1) ls (rv ad (0, h 2 r i) :: rest))) : W p l e R s m args below meth c H locs cells slots Q (F0 m pc ls (rv ad (0, i) :: rv ad (1, r) :: rest)) := by
  obtain ⟨hx, hb, hr, hml, hown, hts, -, -, -, -, -, -, hK, -⟩ := C
  have hr3 := hok_arr o (r := r) (by omega) (by omega)
  have hi2 := vin_of hi
  have hat := wo_at (cA := cA) (ad := ad) hr3.1 hr3.2
  rw [ce_int (k := 1) (Or.inl rfl) e2] at hat
  rw [rv_ref (by omega)]
  refine va_iald hx hb hK hP (r - 3).toNat 0 hat (kt_at (k := 1) (by decide)) (vi32_in ci hi2.1 (by omega)) d ?_
  rw [vi32_clamp ci, show fI h r i.toNat = vi32 (h 2 r i) by unfold fI mk; rw [if_pos (by omega), show ((i.toNat : Nat) : Int) = i by omega]]
  exact K
theorem sr_bld (C : Cx l D cA base t0 b0 L0 xs p R s m args meth c M) (hP : va_P D vwCl (wo cA ad h) H) (o : hok L0 xs h) {i : Int} (e2 : h 0 r 0 = 2) (hi : vin h r i = true) (ci : c32 i) (d : decode (vmB M) pc = .ok (.baload, 1))
    (K : W p l e R s m args below meth c H locs cells slots Q (F0 m (pc + 1) ls (rv ad (0, h 2 r i) :: rest))) : W p l e R s m args below meth c H locs cells slots Q (F0 m pc ls (rv ad (0, i) :: rv ad (1, r) :: rest)) := by
  obtain ⟨hx, hb, hr, hml, hown, hts, -, -, -, -, -, -, hK, -⟩ := C
  have hr3 := hok_arr o (r := r) (by omega) (by omega)
  have hi2 := vin_of hi
  have hat := wo_at (cA := cA) (ad := ad) hr3.1 hr3.2
  rw [ce_int (k := 2) (Or.inr rfl) e2] at hat
  rw [rv_ref (by omega)]
  refine va_zald hx hb hK hP (r - 3).toNat 1 hat (kt_at (k := 2) (by decide)) (vi32_in ci hi2.1 (by omega)) d ?_
  rw [vi32_clamp ci, show fI h r i.toNat = vi32 (h 2 r i) by unfold fI mk; rw [if_pos (by omega), show ((i.toNat : Nat) : Int) = i by omega]]
  exact K
theorem sr_ald (C : Cx l D cA base t0 b0 L0 xs p R s m args meth c M) (hP : va_P D vwCl (wo cA ad h) H) (o : hok L0 xs h) {i : Int} (e2 : h 0 r 0 = 4 ∨ h 0 r 0 = 5 ∨ h 0 r 0 = 6) (hi : vin h r i = true) (ci : c32 i) (d : decode (vmB M) pc = .ok (.aaload, 1))
    (K : W p l e R s m args below meth c H locs cells slots Q (F0 m (pc + 1) ls (rv ad (1, h 2 r i) :: rest))) : W p l e R s m args below meth c H locs cells slots Q (F0 m pc ls (rv ad (0, i) :: rv ad (1, r) :: rest)) := by
  obtain ⟨hx, hb, hr, hml, hown, hts, -, -, -, -, -, -, hK, -⟩ := C
  have hr3 := hok_arr o (r := r) (by omega) (by omega)
  have hi2 := vin_of hi
  obtain ⟨k, hk, ek⟩ : ∃ k : Nat, (4 ≤ k ∧ k ≤ 6) ∧ h 0 r 0 = (k : Int) := ⟨(h 0 r 0).toNat, by omega, by omega⟩
  have hat := wo_at (cA := cA) (ad := ad) hr3.1 hr3.2
  rw [ce_ref hk ek] at hat
  rw [rv_ref (by omega)]
  have kt : ∃ Cn, kty k = .object Cn := by
    rcases (show k = 4 ∨ k = 5 ∨ k = 6 by omega) with z | z | z <;> (subst z; exact ⟨_, rfl⟩)
  obtain ⟨Cn, kt⟩ := kt
  have hkt := kt_at (cA := cA) (k := k) (by omega)
  rw [kt] at hkt
  refine va_aldq hx hb hK hP (r - 3).toNat (k - 1) hat hkt (vi32_in ci hi2.1 (by omega)) d ?_
  rw [vi32_clamp ci, show fR ad h r i.toNat = ro ad (h 2 r i) by unfold fR mk; rw [if_pos (by omega), show ((i.toNat : Nat) : Int) = i by omega]]
  exact K
theorem sr_scr (C : Cx l D cA base t0 b0 L0 xs p R s m args meth c M) (hS : va_S (fun q => base ≤ q) s.heap H locs) (h2 : ad 2 = b0) (o : hok L0 xs h) {i : Int} (e2 : h 0 r 0 = 11) (hi : vin h r i = true) (ci : c32 i) (d : decode (vmB M) pc = .ok (.iaload, 1))
    (K : W p l e R s m args below meth c H locs cells slots Q (F0 m (pc + 1) ls (rv ad (0, h 2 r i) :: rest))) : W p l e R s m args below meth c H locs cells slots Q (F0 m pc ls (rv ad (0, i) :: rv ad (1, r) :: rest)) := by
  obtain ⟨hx, hb, hr, hml, hown, hts, -, -, -, -, -, -, hK, hv⟩ := C
  obtain ⟨-, -, -, -, hX, hbl, -, hbs, -⟩ := hv
  obtain rfl := hok_scr o e2
  have hi2 := vin_of hi
  have hL := o.2.2.2.2.2.2.2.2.1
  rw [rv_ref (by decide), show ad (2 : Int).toNat = b0 from h2]
  refine va_sld hx hb hX (by omega) (by omega) hS (vi32_in ci hi2.1 (by omega)) d ?_
  rw [vi32_clamp ci, show xs i.toNat = vi32 (h 2 2 i) by rw [o.2.2.2.2.2.2.2.2.2 i hi2.1 (by omega), vi32_of]]
  exact K
theorem sr_ist (C : Cx l D cA base t0 b0 L0 xs p R s m args meth c M) (hP : va_P D vwCl (wo cA ad h) H) (hD : va_D (fun q => base ≤ q) (wo cA ad h)) (hS : va_S (fun q => base ≤ q) s.heap H locs) (o : hok L0 xs h) {i v : Int} (e2 : h 0 r 0 = 1) (hi : vin h r i = true) (ci : c32 i) (d : decode (vmB M) pc = .ok (.iastore, 1))
    (K : ∀ (H1 : Heap) (locs1 : List Loc), va_P D vwCl (wo cA ad (vup h 2 r i v)) H1 → va_D (fun q => base ≤ q) (wo cA ad (vup h 2 r i v)) → va_S (fun q => base ≤ q) s.heap H1 locs1 → W p l e R s m args below meth c H1 locs1 cells slots Q (F0 m (pc + 1) ls rest)) : W p l e R s m args below meth c H locs cells slots Q (F0 m pc ls (rv ad (0, v) :: rv ad (0, i) :: rv ad (1, r) :: rest)) := by
  obtain ⟨hx, hb, hr, hml, hown, hts, -, -, -, -, -, -, hK, -⟩ := C
  have hr3 := hok_arr o (r := r) (by omega) (by omega)
  have hi2 := vin_of hi
  have hat := wo_at (cA := cA) (ad := ad) hr3.1 hr3.2
  rw [ce_int (k := 1) (Or.inl rfl) e2] at hat
  rw [wo_vup (by decide) hr3.1 (ce_puti (k := 1) (Or.inl rfl) e2 hi2.1 hi2.2)] at K
  rw [rv_ref (by omega)]
  refine va_iast hx hb hK hP hD hS (r - 3).toNat 0 hat (kt_at (k := 1) (by decide)) (vi32_in ci hi2.1 (by omega)) d ?_
  rw [vi32_clamp ci]
  exact K
theorem sr_bst (C : Cx l D cA base t0 b0 L0 xs p R s m args meth c M) (hP : va_P D vwCl (wo cA ad h) H) (hD : va_D (fun q => base ≤ q) (wo cA ad h)) (hS : va_S (fun q => base ≤ q) s.heap H locs) (o : hok L0 xs h) {i v : Int} (e2 : h 0 r 0 = 2) (hi : vin h r i = true) (hv : v = 0 ∨ v = 1) (ci : c32 i) (d : decode (vmB M) pc = .ok (.bastore, 1))
    (K : ∀ (H1 : Heap) (locs1 : List Loc), va_P D vwCl (wo cA ad (vup h 2 r i v)) H1 → va_D (fun q => base ≤ q) (wo cA ad (vup h 2 r i v)) → va_S (fun q => base ≤ q) s.heap H1 locs1 → W p l e R s m args below meth c H1 locs1 cells slots Q (F0 m (pc + 1) ls rest)) : W p l e R s m args below meth c H locs cells slots Q (F0 m pc ls (rv ad (0, v) :: rv ad (0, i) :: rv ad (1, r) :: rest)) := by
  obtain ⟨hx, hb, hr, hml, hown, hts, -, -, -, -, -, -, hK, -⟩ := C
  have hr3 := hok_arr o (r := r) (by omega) (by omega)
  have hi2 := vin_of hi
  have hat := wo_at (cA := cA) (ad := ad) hr3.1 hr3.2
  rw [ce_int (k := 2) (Or.inr rfl) e2] at hat
  rw [wo_vup (by decide) hr3.1 (ce_puti (k := 2) (Or.inr rfl) e2 hi2.1 hi2.2)] at K
  rw [rv_ref (by omega)]
  refine va_zast hx hb hK hP hD hS (r - 3).toNat 1 hat (kt_at (k := 2) (by decide)) (vi32_in ci hi2.1 (by omega)) d ?_
  rw [vi32_clamp ci, narrow_bool hv]
  exact K
theorem gc_at {ci : Nat} (h : ci < 14) : ∃ T : u_T, vwCl[ci]? = some (vcn ci, T, vn ci) := by
  obtain ⟨Cn, T, hc, -, -, -, -, -, hcn, -⟩ := gc ci h
  exact ⟨T, by rw [hc, hcn]⟩
theorem castO : ∀ ci, ci = 2 ∨ ci = 9 ∨ ci = 12 → okw (.castable (vcn ci) "java/lang/Object") := by
  rintro ci (z | z | z)
  · subst z; exact okw_t  (in_6 (List.mem_of_getElem? (i := 207) rfl)) rfl
  · subst z; exact okw_t  (in_6 (List.mem_of_getElem? (i := 206) rfl)) rfl
  · subst z; exact okw_t  (in_6 (List.mem_of_getElem? (i := 208) rfl)) rfl
theorem sr_ast (C : Cx l D cA base t0 b0 L0 xs p R s m args meth c M) (hP : va_P D vwCl (wo cA ad h) H) (hD : va_D (fun q => base ≤ q) (wo cA ad h)) (hS : va_S (fun q => base ≤ q) s.heap H locs) (o : hok L0 xs h) {i v : Int} (hi : vin h r i = true) (ck : (h 0 r 0 = 4 ∧ (v = 0 ∨ h 0 v 0 = 25)) ∨ (h 0 r 0 = 5 ∧ (v = 0 ∨ h 0 v 0 = 26)) ∨ (h 0 r 0 = 6 ∧ (v = 0 ∨ h 0 v 0 = 22 ∨ h 0 v 0 = 29 ∨ h 0 v 0 = 32))) (ci : c32 i) (d : decode (vmB M) pc = .ok (.aastore, 1))
    (K : ∀ (H1 : Heap) (locs1 : List Loc), va_P D vwCl (wo cA ad (vup h 2 r i v)) H1 → va_D (fun q => base ≤ q) (wo cA ad (vup h 2 r i v)) → va_S (fun q => base ≤ q) s.heap H1 locs1 → W p l e R s m args below meth c H1 locs1 cells slots Q (F0 m (pc + 1) ls rest)) : W p l e R s m args below meth c H locs cells slots Q (F0 m pc ls (rv ad (1, v) :: rv ad (0, i) :: rv ad (1, r) :: rest)) := by
  obtain ⟨hx, hb, hr, hml, hown, hts, -, -, -, -, -, -, hK, -⟩ := C
  have hr3 := hok_arr o (r := r) (by omega) (by omega)
  have hi2 := vin_of hi
  obtain ⟨k, hk, ek⟩ : ∃ k : Nat, (4 ≤ k ∧ k ≤ 6) ∧ h 0 r 0 = (k : Int) := ⟨(h 0 r 0).toNat, by omega, by omega⟩
  have hat := wo_at (cA := cA) (ad := ad) hr3.1 hr3.2
  rw [ce_ref hk ek] at hat
  rw [wo_vup (by decide) hr3.1 (ce_putr hk ek hi2.1 hi2.2)] at K
  rw [rv_ref (r := r) (by omega)]
  have hkt := kt_at (cA := cA) (k := k) (by omega)
  have hin := vi32_in (n := (h 1 r 0).toNat) ci hi2.1 (by omega)
  by_cases hv0 : v = 0
  · subst hv0
    have kt : ∃ Cn, kty k = .object Cn := by
      rcases (show k = 4 ∨ k = 5 ∨ k = 6 by omega) with z | z | z <;> (subst z; exact ⟨_, rfl⟩)
    obtain ⟨Cn, kt⟩ := kt
    rw [kt] at hkt
    refine va_astqN hx hb hK hP hD hS (r - 3).toNat (k - 1) hat hkt hin d ?_
    rw [vi32_clamp ci]
    exact K
  · rw [rv_ref hv0]
    obtain ⟨cv, hcv, ecv⟩ : ∃ cv : Nat, cv < 14 ∧ h 0 v 0 = 20 + (cv : Int) := ⟨(h 0 v 0 - 20).toNat, by omega, by omega⟩
    have hv3 := hok_cls o ecv
    have hav := wo_at (cA := cA) (ad := ad) hv3.1 hv3.2
    rw [ce_cls ecv] at hav
    obtain ⟨T, hT⟩ := gc_at hcv
    have ero : ro ad v = some (ad v.toNat) := if_neg hv0
    rw [ero] at K
    by_cases h6 : k = 6
    · subst h6
      refine va_astqO hx hb hK hP hD hS (r - 3).toNat 5 (v - 3).toNat cv (E := "java/lang/Object") hat hkt (va_Nw.of rfl (hts _ (castO cv (by omega)))) hav hT hin d ?_
      rw [vi32_clamp ci]
      exact K
    · have kt : kty k = .object (vcn cv) := by
        rcases (show (k = 4 ∧ cv = 5) ∨ (k = 5 ∧ cv = 6) by omega) with ⟨z, z2⟩ | ⟨z, z2⟩ <;> (subst z z2; rfl)
      rw [kt] at hkt
      refine va_astq hx hb hK hP hD hS (r - 3).toNat (k - 1) (v - 3).toNat cv (r := (vcn cv, T, vn cv)) hat hkt hav hT hin d ?_
      rw [vi32_clamp ci]
      exact K
end MEM
