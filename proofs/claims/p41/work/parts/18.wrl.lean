/-! the cells of the machine that a heap of the pure machine stands for -/
def ro (ad : Nat → Nat) (z : Int) : Option Nat := if z = 0 then none else some (ad z.toNat)
def rv (ad : Nat → Nat) : vv → Value
  | (0, z) => .int (vi32 z)
  | (1, z) => va_rf (ro ad z)
  | (2, z) => .long (vi64 z)
  | _ => .null
def mk {α : Type} (n : Int) (d : α) (f : Int → α) : Nat → α := fun i => if (i : Int) < n then f i else d
def fI (h : vH) (r : Int) : Nat → Int32 := mk (h 1 r 0) 0 (fun i => vi32 (h 2 r i))
def fL (h : vH) (r : Int) : Nat → Int64 := mk (h 1 r 0) 0 (fun i => vi64 (h 2 r i))
def fR (ad : Nat → Nat) (h : vH) (r : Int) : Nat → Option Nat := mk (h 1 r 0) none (fun i => ro ad (h 2 r i))
def flds (ad : Nat → Nat) (h : vH) (ci : Nat) (r : Int) : List Value := (List.range (vn ci)).map fun j => rv ad (vkd (vtyp ci j), h (vfc ci j) r 0)
def ae (ad : Nat → Nat) (h : vH) (k r : Int) : (Nat → Int32) ⊕ (Nat → Int64) ⊕ (Nat → UInt32) ⊕ (Nat → UInt64) ⊕ (Nat → Option Nat) :=
  if k = 3 then .inr (.inl (fL h r)) else if 4 ≤ k then .inr (.inr (.inr (.inr (fR ad h r)))) else .inl (fI h r)
def ce (cA : Nat → ClassId) (ad : Nat → Nat) (h : vH) (r : Int) : va_E :=
  if 20 ≤ h 0 r 0 then .inr ((h 0 r 0 - 20).toNat, flds ad h (h 0 r 0 - 20).toNat r) else .inl (cA (h 0 r 0).toNat, (h 1 r 0).toNat, ae ad h (h 0 r 0) r)
def wo (cA : Nat → ClassId) (ad : Nat → Nat) (h : vH) : va_W := (List.range (h 3 0 0 - 3).toNat).map fun (j : Nat) => (ad (j + 3), ce cA ad h ((j : Int) + 3))
section WRL
variable {cA : Nat → ClassId} {ad : Nat → Nat} {h h' : vH} {L0 : Nat} {xs : Nat → Int32} {r : Int}
theorem ce_cls {ci : Nat} (e : h 0 r 0 = 20 + (ci : Int)) : ce cA ad h r = .inr (ci, flds ad h ci r) := by
  unfold ce
  rw [if_pos (by omega), show (h 0 r 0 - 20).toNat = ci by omega]
theorem ce_arr (e : h 0 r 0 ≤ 6) : ce cA ad h r = .inl (cA (h 0 r 0).toNat, (h 1 r 0).toNat, ae ad h (h 0 r 0) r) := by
  unfold ce
  rw [if_neg (by omega)]
theorem ce_int {k : Nat} (hk : k = 1 ∨ k = 2) (e : h 0 r 0 = (k : Int)) : ce cA ad h r = .inl (cA k, (h 1 r 0).toNat, .inl (fI h r)) := by
  rw [ce_arr (by omega), e]
  unfold ae
  rw [if_neg (by omega), if_neg (by omega)]
  rfl
theorem ce_lng (e : h 0 r 0 = 3) : ce cA ad h r = .inl (cA 3, (h 1 r 0).toNat, .inr (.inl (fL h r))) := by
  rw [ce_arr (by omega), e]
  rfl
theorem ce_ref {k : Nat} (hk : 4 ≤ k ∧ k ≤ 6) (e : h 0 r 0 = (k : Int)) : ce cA ad h r = .inl (cA k, (h 1 r 0).toNat, .inr (.inr (.inr (.inr (fR ad h r))))) := by
  rw [ce_arr (by omega), e]
  unfold ae
  rw [if_neg (by omega), if_pos (by omega)]
  rfl
theorem ce_congr (e : ∀ k i, h' k r i = h k r i) : ce cA ad h' r = ce cA ad h r := by
  unfold ce flds ae fI fL fR
  simp only [e]
theorem wo_len : (wo cA ad h).length = (h 3 0 0 - 3).toNat := by unfold wo; rw [List.length_map, List.length_range]
theorem wo_at (h1 : 3 ≤ r) (h2 : r < h 3 0 0) : (wo cA ad h)[(r - 3).toNat]? = some (ad r.toNat, ce cA ad h r) := by
  unfold wo
  rw [List.getElem?_map, List.getElem?_range (by omega)]
  show some (ad ((r - 3).toNat + 3), ce cA ad h (((r - 3).toNat : Int) + 3)) = _
  rw [show (r - 3).toNat + 3 = r.toNat by omega, show (((r - 3).toNat : Int) + 3) = r by omega]
theorem wo_set {x : va_E} (hn : h' 3 0 0 = h 3 0 0) (h1 : 3 ≤ r) (hc : ∀ r', r' ≠ r → ce cA ad h' r' = ce cA ad h r') (e : ce cA ad h' r = x) : wo cA ad h' = (wo cA ad h).set (r - 3).toNat (ad r.toNat, x) := by
  apply List.ext_getElem?
  intro j
  rw [List.getElem?_set]
  by_cases hj : (r - 3).toNat = j
  · rw [if_pos hj]
    by_cases hl : j < (wo cA ad h).length
    · rw [wo_len] at hl
      subst hj
      rw [if_pos (by rw [wo_len]; exact hl), wo_at h1 (by omega), e]
    · rw [if_neg (by rw [hj]; exact hl)]
      apply List.getElem?_eq_none
      rw [wo_len] at hl ⊢
      rw [hn]; omega
  · rw [if_neg hj]
    unfold wo
    rw [List.getElem?_map, List.getElem?_map, hn]
    by_cases hl : j < (h 3 0 0 - 3).toNat
    · rw [List.getElem?_range hl]
      show some (_, ce cA ad h' ((j : Int) + 3)) = some (_, ce cA ad h ((j : Int) + 3))
      rw [hc _ (by omega)]
    · rw [List.getElem?_eq_none (by rw [List.length_range]; omega)]
      rfl
theorem wo_vup {k : Nat} {i v : Int} {x : va_E} (hk : k ≠ 3) (h1 : 3 ≤ r) (e : ce cA ad (vup h k r i v) r = x) : wo cA ad (vup h k r i v) = (wo cA ad h).set (r - 3).toNat (ad r.toNat, x) :=
  wo_set (vup_nk (fun z => hk z.symm)) h1 (fun r' hr => ce_congr fun _ _ => vup_nr hr) e
theorem flds_at {ci j : Nat} (hj : j < vn ci) : (flds ad h ci r)[j]? = some (rv ad (vkd (vtyp ci j), h (vfc ci j) r 0)) := by
  unfold flds
  rw [List.getElem?_map, List.getElem?_range hj]
  rfl
theorem flds_len {ci : Nat} : (flds ad h ci r).length = vn ci := by unfold flds; rw [List.length_map, List.length_range]
theorem flds_set {ci j : Nat} {v : Int} (hj : j < vn ci) : flds ad (vup h (vfc ci j) r 0 v) ci r = (flds ad h ci r).set j (rv ad (vkd (vtyp ci j), v)) := by
  apply List.ext_getElem?
  intro k
  rw [List.getElem?_set, flds_len]
  by_cases hk : k < vn ci
  · rw [flds_at hk]
    by_cases e : j = k
    · subst e
      rw [if_pos rfl, if_pos hk, vup_at]
    · rw [if_neg e, flds_at hk, vup_nk (by unfold vfc; omega)]
  · rw [List.getElem?_eq_none (by rw [flds_len]; omega), if_neg (by omega), List.getElem?_eq_none (by rw [flds_len]; omega)]
theorem ce_putf {ci j : Nat} {v : Int} (e : h 0 r 0 = 20 + (ci : Int)) (hj : j < vn ci) : ce cA ad (vup h (vfc ci j) r 0 v) r = .inr (ci, (flds ad h ci r).set j (rv ad (vkd (vtyp ci j), v))) := by
  rw [ce_cls (ci := ci) (by rw [vup_nk (by unfold vfc; omega)]; exact e), flds_set hj]
theorem mk_upd {α : Type} {n : Int} {d : α} {f g : Int → α} {i : Int} {x : α} (h0 : 0 ≤ i) (h1 : i < n) (hg : ∀ j, g j = if j = i then x else f j) : mk n d g = fun (j : Nat) => if j = i.toNat then x else mk n d f j := by
  funext j
  unfold mk
  by_cases e : j = i.toNat
  · rw [if_pos e, if_pos (by omega), hg, if_pos (by omega)]
  · rw [if_neg e]
    by_cases q : (j : Int) < n
    · rw [if_pos q, if_pos q, hg, if_neg (by omega)]
    · rw [if_neg q, if_neg q]
theorem ce_puti {k : Nat} {i v : Int} (hk : k = 1 ∨ k = 2) (e : h 0 r 0 = (k : Int)) (h0 : 0 ≤ i) (h1 : i < h 1 r 0) : ce cA ad (vup h 2 r i v) r = .inl (cA k, (h 1 r 0).toNat, .inl (upd (fI h r) i.toNat (vi32 v))) := by
  rw [ce_int hk (by rw [vup_nk (by decide)]; exact e), vup_nk (by decide)]
  unfold fI upd
  rw [vup_nk (by decide), mk_upd h0 h1 (f := fun i => vi32 (h 2 r i)) (x := vi32 v)]
  intro j
  unfold vup
  by_cases q : j = i
  · rw [if_pos ⟨rfl, rfl, q⟩, if_pos q]
  · rw [if_neg (fun z => q z.2.2), if_neg q]
theorem ce_putl {i v : Int} (e : h 0 r 0 = 3) (h0 : 0 ≤ i) (h1 : i < h 1 r 0) : ce cA ad (vup h 2 r i v) r = .inl (cA 3, (h 1 r 0).toNat, .inr (.inl (vp_updL (fL h r) i.toNat (vi64 v)))) := by
  rw [ce_lng (by rw [vup_nk (by decide)]; exact e), vup_nk (by decide)]
  unfold fL vp_updL
  rw [vup_nk (by decide), mk_upd h0 h1 (f := fun i => vi64 (h 2 r i)) (x := vi64 v)]
  intro j
  unfold vup
  by_cases q : j = i
  · rw [if_pos ⟨rfl, rfl, q⟩, if_pos q]
  · rw [if_neg (fun z => q z.2.2), if_neg q]
theorem ce_putr {k : Nat} {i v : Int} (hk : 4 ≤ k ∧ k ≤ 6) (e : h 0 r 0 = (k : Int)) (h0 : 0 ≤ i) (h1 : i < h 1 r 0) : ce cA ad (vup h 2 r i v) r = .inl (cA k, (h 1 r 0).toNat, .inr (.inr (.inr (.inr (va_up (fR ad h r) i.toNat (ro ad v)))))) := by
  rw [ce_ref hk (by rw [vup_nk (by decide)]; exact e), vup_nk (by decide)]
  unfold fR va_up
  rw [vup_nk (by decide), mk_upd h0 h1 (f := fun i => ro ad (h 2 r i)) (x := ro ad v)]
  intro j
  unfold vup
  by_cases q : j = i
  · rw [if_pos ⟨rfl, rfl, q⟩, if_pos q]
  · rw [if_neg (fun z => q z.2.2), if_neg q]
theorem mk_cpy {α : Type} {na nb sp dp n : Int} {d : α} {f g : Int → α} (h0 : 0 ≤ n) (h1 : 0 ≤ sp) (h2 : 0 ≤ dp) (h3 : sp + n ≤ na) (h4 : dp + n ≤ nb) : mk nb d (fun i => if dp ≤ i ∧ i < dp + n then f (sp + (i - dp)) else g i) = va_cpy (mk na d f) (mk nb d g) sp.toNat dp.toNat n.toNat := by
  funext j
  show (if (j : Int) < nb then (if dp ≤ (j : Int) ∧ (j : Int) < dp + n then f (sp + ((j : Int) - dp)) else g (j : Int)) else d) = if dp.toNat ≤ j ∧ j < dp.toNat + n.toNat then (if ((sp.toNat + (j - dp.toNat) : Nat) : Int) < na then f ((sp.toNat + (j - dp.toNat) : Nat) : Int) else d) else (if (j : Int) < nb then g (j : Int) else d)
  by_cases e : dp ≤ (j : Int) ∧ (j : Int) < dp + n
  · rw [if_pos (by omega), if_pos e, if_pos (by omega), if_pos (by omega)]
    congr 1
    omega
  · rw [if_neg e, if_neg (show ¬ (dp.toNat ≤ j ∧ j < dp.toNat + n.toNat) by omega)]
theorem ce_cpi {k : Nat} {a sp dp n : Int} (hk : k = 1 ∨ k = 2) (e : h 0 r 0 = (k : Int)) (h0 : 0 ≤ n) (h1 : 0 ≤ sp) (h2 : 0 ≤ dp) (h3 : sp + n ≤ h 1 a 0) (h4 : dp + n ≤ h 1 r 0) : ce cA ad (vcp h a sp r dp n) r = .inl (cA k, (h 1 r 0).toNat, .inl (va_cpy (fI h a) (fI h r) sp.toNat dp.toNat n.toNat)) := by
  rw [ce_int hk (by rw [vcp_nk (by decide)]; exact e), vcp_nk (by decide)]
  unfold fI
  rw [vcp_nk (by decide), ← mk_cpy h0 h1 h2 h3 h4]
  have z : (fun i => vi32 (vcp h a sp r dp n 2 r i)) = fun i => if dp ≤ i ∧ i < dp + n then vi32 (h 2 a (sp + (i - dp))) else vi32 (h 2 r i) := by
    funext i
    unfold vcp
    by_cases q : dp ≤ i ∧ i < dp + n
    · rw [if_pos ⟨rfl, rfl, q⟩, if_pos q]
    · rw [if_neg (fun z => q z.2.2), if_neg q]
  rw [z]
theorem ce_cpr {k : Nat} {a sp dp n : Int} (hk : 4 ≤ k ∧ k ≤ 6) (e : h 0 r 0 = (k : Int)) (h0 : 0 ≤ n) (h1 : 0 ≤ sp) (h2 : 0 ≤ dp) (h3 : sp + n ≤ h 1 a 0) (h4 : dp + n ≤ h 1 r 0) : ce cA ad (vcp h a sp r dp n) r = .inl (cA k, (h 1 r 0).toNat, .inr (.inr (.inr (.inr (va_cpy (fR ad h a) (fR ad h r) sp.toNat dp.toNat n.toNat))))) := by
  rw [ce_ref hk (by rw [vcp_nk (by decide)]; exact e), vcp_nk (by decide)]
  unfold fR
  rw [vcp_nk (by decide), ← mk_cpy h0 h1 h2 h3 h4]
  have z : (fun i => ro ad (vcp h a sp r dp n 2 r i)) = fun i => if dp ≤ i ∧ i < dp + n then ro ad (h 2 a (sp + (i - dp))) else ro ad (h 2 r i) := by
    funext i
    unfold vcp
    by_cases q : dp ≤ i ∧ i < dp + n
    · rw [if_pos ⟨rfl, rfl, q⟩, if_pos q]
    · rw [if_neg (fun z => q z.2.2), if_neg q]
  rw [z]
theorem wo_vcp {a sp dp n : Int} {x : va_E} (h1 : 3 ≤ r) (e : ce cA ad (vcp h a sp r dp n) r = x) : wo cA ad (vcp h a sp r dp n) = (wo cA ad h).set (r - 3).toNat (ad r.toNat, x) :=
  wo_set (vcp_nk (by decide)) h1 (fun r' hr => ce_congr fun _ _ => if_neg (fun z => hr z.2.1)) e
/-- addresses that go on -/
def ext (n : Int) (ad ad' : Nat → Nat) : Prop := ∀ i : Nat, (i : Int) < n → ad' i = ad i
theorem ext_refl {n : Int} : ext n ad ad := fun _ _ => rfl
theorem ext_trans {n n' : Int} {ad1 ad2 : Nat → Nat} (h1 : ext n ad ad1) (hn : n ≤ n') (h2 : ext n' ad1 ad2) : ext n ad ad2 := fun i hi => (h2 i (by omega)).trans (h1 i hi)
theorem ro_ext {n : Int} {ad' : Nat → Nat} (x : ext n ad ad') {z : Int} (h0 : 0 ≤ z) (h1 : z < n) : ro ad' z = ro ad z := by
  unfold ro
  rw [x z.toNat (by omega)]
theorem rv_ext {n : Int} {ad' : Nat → Nat} (x : ext n ad ad') {v : vv} (o : vok n v) : rv ad' v = rv ad v := by
  unfold rv
  split
  · rfl
  · rw [ro_ext x o.1 o.2]
  · rfl
  · rfl
theorem mk_ext {α : Type} {n : Int} {d : α} {f g : Int → α} (e : ∀ i, 0 ≤ i → i < n → f i = g i) : mk n d f = mk n d g := by
  funext j
  unfold mk
  split
  · rename_i q; exact e _ (by omega) q
  · rfl
theorem ce_ext {ad' : Nat → Nat} (o : hok L0 xs h) (x : ext (h 3 0 0) ad ad') : ce cA ad' h r = ce cA ad h r ∨ ¬ (3 ≤ r ∧ r < h 3 0 0) := by
  by_cases q : 3 ≤ r ∧ r < h 3 0 0
  · refine Or.inl ?_
    rcases o.2.2.1 r q.1 q.2 with z | z
    · rw [ce_arr z.2, ce_arr z.2]
      have h4 := (o.2.2.2.2.1 r z.1 z.2).2.2
      unfold ae
      by_cases h3 : h 0 r 0 = 3
      · rw [if_pos h3, if_pos h3]
      · rw [if_neg h3, if_neg h3]
        by_cases h44 : 4 ≤ h 0 r 0
        · rw [if_pos h44, if_pos h44]
          have : fR ad' h r = fR ad h r := by
            unfold fR
            refine mk_ext fun i a b => ?_
            have q5 := h4 i a b
            unfold vkz at q5
            rw [if_neg h3, if_pos h44] at q5
            exact ro_ext x q5.1 q5.2
          rw [this]
        · rw [if_neg h44, if_neg h44]
    · obtain ⟨ci, hci⟩ : ∃ ci : Nat, h 0 r 0 = 20 + (ci : Int) := ⟨(h 0 r 0 - 20).toNat, by omega⟩
      rw [ce_cls hci, ce_cls hci]
      have : flds ad' h ci r = flds ad h ci r := by
        unfold flds
        refine List.map_congr_left fun j hj => ?_
        exact rv_ext x (o.2.2.2.1 r ci hci j (List.mem_range.mp hj))
      rw [this]
  · exact Or.inr q
theorem wo_ext {ad' : Nat → Nat} (o : hok L0 xs h) (x : ext (h 3 0 0) ad ad') : wo cA ad' h = wo cA ad h := by
  unfold wo
  refine List.map_congr_left fun j hj => ?_
  have hj := List.mem_range.mp hj
  rcases ce_ext (cA := cA) (r := (j : Int) + 3) o x with e | e
  · rw [e, x (j + 3) (by omega)]
  · exact absurd ⟨by omega, by omega⟩ e
def adN (ad : Nat → Nat) (n : Int) (q : Nat) : Nat → Nat := fun i => if (i : Int) = n then q else ad i
theorem adN_ext {n : Int} {q : Nat} : ext n ad (adN ad n q) := fun i hi => if_neg (by omega)
theorem adN_at {n : Int} {q : Nat} (hn : 0 ≤ n) : adN ad n q n.toNat = q := if_pos (by omega)
theorem wo_new {ty len ns : Int} {q : Nat} {x : va_E} (o : hok L0 xs h) (e : ce cA (adN ad (h 3 0 0) q) (vnew h ty len ns) (h 3 0 0) = x) : wo cA (adN ad (h 3 0 0) q) (vnew h ty len ns) = wo cA ad h ++ [(q, x)] := by
  have h3 := o.1
  unfold wo
  rw [vnew_nx (by omega), show (h 3 0 0 + 1 - 3).toNat = (h 3 0 0 - 3).toNat + 1 by omega, List.range_succ, List.map_append]
  congr 1
  · refine List.map_congr_left fun j hj => ?_
    have hj := List.mem_range.mp hj
    have a1 : ce cA (adN ad (h 3 0 0) q) (vnew h ty len ns) ((j : Int) + 3) = ce cA (adN ad (h 3 0 0) q) h ((j : Int) + 3) := ce_congr fun k i => vnew_lt (by omega) (by omega)
    rw [a1]
    rcases ce_ext (cA := cA) (r := (j : Int) + 3) o (adN_ext (ad := ad) (n := h 3 0 0) (q := q)) with e | e
    · rw [e, adN_ext (j + 3) (by omega)]
    · exact absurd ⟨by omega, by omega⟩ e
  · show [(adN ad (h 3 0 0) q ((h 3 0 0 - 3).toNat + 3), ce cA (adN ad (h 3 0 0) q) (vnew h ty len ns) (((h 3 0 0 - 3).toNat : Int) + 3))] = _
    rw [show (((h 3 0 0 - 3).toNat : Int) + 3) = h 3 0 0 by omega, e, show (h 3 0 0 - 3).toNat + 3 = (h 3 0 0).toNat by omega, adN_at (by omega)]
theorem wo_exc : wo cA ad (vexc h) = wo cA ad h := by
  unfold wo
  rw [vexc_k (by decide) (by decide)]
  refine List.map_congr_left fun j _ => ?_
  have : ce cA ad (vexc h) ((j : Int) + 3) = ce cA ad h ((j : Int) + 3) := by
    refine ce_congr fun k i => ?_
    unfold vexc
    rw [if_neg (fun z => by omega), if_neg (fun z => by omega)]
  rw [this]
end WRL
