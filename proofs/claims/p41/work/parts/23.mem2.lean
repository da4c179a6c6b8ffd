theorem rv_zero {ad ad' : Nat → Nat} : ∀ k : Nat, rv ad (k, 0) = rv ad' (k, 0)
  | 0 => rfl
  | 1 => rfl
  | 2 => rfl
  | _ + 3 => rfl
section MEM2
variable {l : Launch} {D : va_G} {cA : Nat → ClassId} {base t0 b0 L0 : Nat} {xs : Nat → Int32} {p : Program} {e : Env} {R : Room} {s : State} {m : MethodId} {args : Array Value} {below : List Frame} {meth : Method} {c : Code} {M : vM}
variable {H : Heap} {locs : List Loc} {cells slots : Nat} {Q : State → Prop} {pc : Nat} {ls : Array Slot} {rest : List Value} {ad : Nat → Nat} {h : vH} {r : Int}
theorem sr_len (C : Cx l D cA base t0 b0 L0 xs p R s m args meth c M) (hP : va_P D vwCl (wo cA ad h) H) (hS : va_S (fun q => base ≤ q) s.heap H locs) (h1 : ad 1 = t0) (h2 : ad 2 = b0) (o : hok L0 xs h) (e2 : vlen h r = true) (d : decode (vmB M) pc = .ok (.arraylength, 1))
    (K : W p l e R s m args below meth c H locs cells slots Q (F0 m (pc + 1) ls (rv ad (0, h 1 r 0) :: rest))) : W p l e R s m args below meth c H locs cells slots Q (F0 m pc ls (rv ad (1, r) :: rest)) := by
  obtain ⟨hx, hb, hr, hml, hown, hts, -, -, -, -, -, -, hK, hv⟩ := C
  rcases vlen_of e2 with z | z | z
  · have hr3 := hok_arr o z.1 z.2
    obtain ⟨k, hk, ek⟩ : ∃ k : Nat, (1 ≤ k ∧ k ≤ 6) ∧ h 0 r 0 = (k : Int) := ⟨(h 0 r 0).toNat, by omega, by omega⟩
    have hat := wo_at (cA := cA) (ad := ad) hr3.1 hr3.2
    rw [ce_arr z.2, ek] at hat
    rw [rv_ref (by omega)]
    exact va_alen hx hb hK hP (r - 3).toNat (k - 1) hat (kt_at hk) (vi32_nat (o.2.2.2.2.1 r z.1 z.2).1) d K
  · obtain rfl := hok_one o z
    rw [rv_ref (by decide), show ad (1 : Int).toNat = t0 from h1]
    rw [show h 1 1 0 = 0 from o.2.2.2.2.2.2.1] at K
    exact va_tlen hx hb hv.2.1 hS rfl d K
  · obtain rfl := hok_scr o z
    obtain ⟨-, -, -, -, hX, hbl, -, hbs, -⟩ := hv
    rw [rv_ref (by decide), show ad (2 : Int).toNat = b0 from h2]
    refine va_slen hx hb hX (by omega) (by omega) hS d ?_
    rw [show Int32.ofNat L0 = vi32 (h 1 2 0) by rw [o.2.2.2.2.2.2.2.2.1]; exact vi32_nat (z := (L0 : Int)) (by omega)]
    exact K
theorem flds_new {q : Nat} {ci : Nat} {ty ns : Int} (hn : h 3 0 0 ≠ 0) : ∀ j, j < vn ci → vtok (vtyp ci j) = true → defaultValue (vtyp ci j) = vp_V (flds (adN ad (h 3 0 0) q) (vnew h ty 0 ns) ci (h 3 0 0)) j := by
  intro j hj ht
  unfold vp_V
  rw [List.getD_eq_getElem?_getD, flds_at hj, vnew_at, if_neg (fun z => by have := z.1; unfold vfc at this; omega), if_neg (fun z => by have := z.1; unfold vfc at this; omega)]
  show defaultValue (vtyp ci j) = rv _ (vkd (vtyp ci j), 0)
  cases hty : vtyp ci j <;> first | rfl | (rw [hty] at ht; exact absurd ht (by decide))
theorem sr_new (C : Cx l D cA base t0 b0 L0 xs p R s m args meth c M) (hP : va_P D vwCl (wo cA ad h) H) (hD : va_D (fun q => base ≤ q) (wo cA ad h)) (hS : va_S (fun q => base ≤ q) s.heap H locs) (o : hok L0 xs h) {k ci : Nat} (hn : vnr (vmC M) k = some ci) (d : decode (vmB M) pc = .ok (.new k, 3)) (hc : cells + 1 ≤ R.cells) (hs : slots + vn ci ≤ R.slots)
    (K : ∀ (q : Nat) (H1 : Heap), va_P D vwCl (wo cA (adN ad (h 3 0 0) q) (vnew h (20 + (ci : Int)) 0 (vn ci))) H1 → va_D (fun q => base ≤ q) (wo cA (adN ad (h 3 0 0) q) (vnew h (20 + (ci : Int)) 0 (vn ci))) → va_S (fun q => base ≤ q) s.heap H1 locs → W p l e R s m args below meth c H1 locs (cells + 1) (slots + vn ci) Q (F0 m (pc + 3) ls (rv (adN ad (h 3 0 0) q) (1, h 3 0 0) :: rest))) : W p l e R s m args below meth c H locs cells slots Q (F0 m pc ls rest) := by
  have hb3 := o.1
  obtain ⟨hw, hci⟩ := tg_vnr hn
  obtain ⟨Cn, T, hc2, hty, hnm, hws, hin, hini, hcn, hfin⟩ := gc ci hci
  obtain ⟨hx, hb, hr, hml, hown, hts, -, -, -, -, -, -, hK, hv⟩ := C
  refine va_new (fs := flds (adN ad (h 3 0 0) 0) (vnew h (20 + (ci : Int)) 0 (vn ci)) ci (h 3 0 0)) hx hb (Ts := u_ws Cn T (vn ci)) (fun w hw => hts w (hws w hw)) (fun w h => h) (vtyp ci) hty hown (by rw [hcn]; exact hts _ hw) (hts _ hin) (hts _ hini) hK hP hD hS (fun q hq => Nat.le_trans hv.2.2.2.2.2.2.2.1 hq) hc2 (fun j hj => flds_new (by omega) j hj (vtok_all ci hci j hj)) hc hs d ?_
  intro q H1 hP1 hD1 hS1
  have hfl : flds (adN ad (h 3 0 0) 0) (vnew h (20 + (ci : Int)) 0 (vn ci)) ci (h 3 0 0) = flds (adN ad (h 3 0 0) q) (vnew h (20 + (ci : Int)) 0 (vn ci)) ci (h 3 0 0) := by
    unfold flds
    refine List.map_congr_left fun j hj => ?_
    rw [vnew_at, if_neg (fun z => by have := z.1; unfold vfc at this; omega), if_neg (fun z => by have := z.1; unfold vfc at this; omega)]
    exact rv_zero _
  rw [hfl] at hP1 hD1
  have hwo := wo_new (cA := cA) (ad := ad) (q := q) (ty := 20 + (ci : Int)) (len := 0) (ns := (vn ci : Int)) o (ce_cls (ci := ci) (by rw [vnew_at, if_pos ⟨rfl, rfl⟩]))
  rw [← hwo] at hP1 hD1
  have k2 := K q H1 hP1 hD1 hS1
  rw [rv_ref (by omega), adN_at (by omega)] at k2
  exact k2
theorem mk_zero {α : Type} {n : Int} {d : α} {f : Int → α} (hf : ∀ i, f i = d) : mk n d f = fun _ => d := by
  funext j
  unfold mk
  split
  · exact hf _
  · rfl
theorem new_el {ty n ns : Int} (hb3 : h 3 0 0 ≠ 0) (i : Int) : vnew h ty n ns 2 (h 3 0 0) i = 0 := by
  rw [vnew_at, if_neg (fun z => by have := z.1; omega), if_neg (fun z => by have := z.1; omega)]
theorem kty_ra (hK : va_K D vwCl (ktys cA) s) {cB : ClassId} {k : Nat} (hk : 1 ≤ k ∧ k ≤ 6) (h2 : va_RA s cB (kty k)) : cB = cA k := by
  have h1 := (hK.2 (k - 1) _ (kt_at hk)).2
  rcases (show k = 1 ∨ k = 2 ∨ k = 3 ∨ k = 4 ∨ k = 5 ∨ k = 6 by omega) with z | z | z | z | z | z
  · subst z; exact Option.some.inj ((h2 : s.vm.findClass _ = some cB).symm.trans h1)
  · subst z; exact Option.some.inj ((h2 : s.vm.findClass _ = some cB).symm.trans h1)
  · subst z; exact Option.some.inj ((h2 : s.vm.findClass _ = some cB).symm.trans h1)
  · subst z
    obtain ⟨_, _, _, _, _, a⟩ := h2
    obtain ⟨_, _, _, _, _, b⟩ := h1
    exact Option.some.inj (a.symm.trans b)
  · subst z
    obtain ⟨_, _, _, _, _, a⟩ := h2
    obtain ⟨_, _, _, _, _, b⟩ := h1
    exact Option.some.inj (a.symm.trans b)
  · subst z
    obtain ⟨_, _, _, _, _, a⟩ := h2
    obtain ⟨_, _, _, _, _, b⟩ := h1
    exact Option.some.inj (a.symm.trans b)
theorem sr_newa (C : Cx l D cA base t0 b0 L0 xs p R s m args meth c M) (hP : va_P D vwCl (wo cA ad h) H) (hD : va_D (fun q => base ≤ q) (wo cA ad h)) (hS : va_S (fun q => base ≤ q) s.heap H locs) (o : hok L0 xs h) {at1 : ArrayType} {k : Nat} (hk : (k = 1 ∧ at1 = .int) ∨ (k = 2 ∧ at1 = .boolean)) {n : Int} (hn : 0 ≤ n ∧ n ≤ 100000) (d : decode (vmB M) pc = .ok (.newarray at1, 2)) (hc : cells + 1 ≤ R.cells) (hs : slots + n.toNat ≤ R.slots)
    (K : ∀ (q : Nat) (H1 : Heap), va_P D vwCl (wo cA (adN ad (h 3 0 0) q) (vnew h (k : Int) n n)) H1 → va_D (fun q => base ≤ q) (wo cA (adN ad (h 3 0 0) q) (vnew h (k : Int) n n)) → va_S (fun q => base ≤ q) s.heap H1 locs → W p l e R s m args below meth c H1 locs (cells + 1) (slots + n.toNat) Q (F0 m (pc + 2) ls (rv (adN ad (h 3 0 0) q) (1, h 3 0 0) :: rest))) : W p l e R s m args below meth c H locs cells slots Q (F0 m pc ls (rv ad (0, n) :: rest)) := by
  have hb3 := o.1
  obtain ⟨hx, hb, hr, hml, hown, hts, -, -, -, -, -, -, hK, hv⟩ := C
  have cn : c32 n := ⟨by omega, by omega⟩
  have hA : ∀ q, s.heap.size ≤ q → base ≤ q := fun q hq => Nat.le_trans hv.2.2.2.2.2.2.2.1 hq
  have hneg : ¬ vi32 n < 0 := by rw [show (0 : Int32) = vi32 0 from rfl, vi32_lt cn c32_0]; omega
  have hlen : vnew h (k : Int) n n 1 (h 3 0 0) 0 = n := by rw [vnew_at, if_neg (fun z => by have := z.1; omega), if_pos ⟨rfl, rfl⟩]
  have hty : vnew h (k : Int) n n 0 (h 3 0 0) 0 = (k : Int) := by rw [vnew_at, if_pos ⟨rfl, rfl⟩]
  have fin : ∀ (a0 : vp_A), (∀ q, ce cA (adN ad (h 3 0 0) q) (vnew h (k : Int) n n) (h 3 0 0) = .inl (cA k, a0)) → (∀ cB : ClassId, vp_cell cB a0 = arrV cB n.toNat (fun _ => defaultValue (kty k))) → (Cond.arrayClass (newarray.typeOf at1)).before args s = true → newarray.typeOf at1 = kty k → n.toNat * componentBytes (kty k) ≤ 536870912 → W p l e R s m args below meth c H locs cells slots Q (F0 m pc ls (rv ad (0, n) :: rest)) := by
    intro a0 hce ha hw ht hby
    refine va_newa hx hb hw ht hK hP hD hS hA ha hneg (vi32_clamp cn) hby hc hs d ?_
    intro q cB H1 hK1 hP1 hD1 hS1
    have hra := (hK1.2 6 (cB, kty k) rfl).2
    have := kty_ra hK (by omega) hra
    subst this
    have hwo := wo_new (cA := cA) (ad := ad) (q := q) (ty := (k : Int)) (len := n) (ns := n) o (hce q)
    rw [← hwo] at hP1 hD1
    have k2 := K q H1 hP1 hD1 hS1
    rw [rv_ref (by omega), adN_at (by omega)] at k2
    exact k2
  rcases hk with ⟨z, z2⟩ | ⟨z, z2⟩
  · subst z z2
    refine fin (n.toNat, .inl (fun _ => 0)) (fun q => ?_) (fun cB => rfl) (hts _ (okw_t (in_1 (List.mem_of_getElem? (i := 64) rfl)) rfl)) rfl (by show n.toNat * 4 ≤ _; omega)
    rw [ce_int (k := 1) (Or.inl rfl) hty, hlen]
    unfold fI
    rw [mk_zero fun i => by rw [new_el (by omega)]; rfl]
  · subst z z2
    refine fin (n.toNat, .inl (fun _ => 0)) (fun q => ?_) (fun cB => rfl) (hts _ (okw_t (in_1 (List.mem_of_getElem? (i := 101) rfl)) rfl)) rfl (by show n.toNat * 1 ≤ _; omega)
    rw [ce_int (k := 2) (Or.inr rfl) hty, hlen]
    unfold fI
    rw [mk_zero fun i => by rw [new_el (by omega)]; rfl]
theorem sr_newq (C : Cx l D cA base t0 b0 L0 xs p R s m args meth c M) (hP : va_P D vwCl (wo cA ad h) H) (hD : va_D (fun q => base ≤ q) (wo cA ad h)) (hS : va_S (fun q => base ≤ q) s.heap H locs) (o : hok L0 xs h) {k ki : Nat} (hk : vaq (vmC M) k = some ki) {n : Int} (hn : 0 ≤ n ∧ n ≤ 100000) (d : decode (vmB M) pc = .ok (.anewarray k, 3)) (hc : cells + 1 ≤ R.cells) (hs : slots + n.toNat ≤ R.slots)
    (K : ∀ (q : Nat) (H1 : Heap), va_P D vwCl (wo cA (adN ad (h 3 0 0) q) (vnew h (ki : Int) n n)) H1 → va_D (fun q => base ≤ q) (wo cA (adN ad (h 3 0 0) q) (vnew h (ki : Int) n n)) → va_S (fun q => base ≤ q) s.heap H1 locs → W p l e R s m args below meth c H1 locs (cells + 1) (slots + n.toNat) Q (F0 m (pc + 3) ls (rv (adN ad (h 3 0 0) q) (1, h 3 0 0) :: rest))) : W p l e R s m args below meth c H locs cells slots Q (F0 m pc ls (rv ad (0, n) :: rest)) := by
  have hb3 := o.1
  have hki := tb_vaq hk
  obtain ⟨w1, w2⟩ := tg_vaq hk
  obtain ⟨hx, hb, hr, hml, hown, hts, -, -, -, -, -, -, hK, hv⟩ := C
  have cn : c32 n := ⟨by omega, by omega⟩
  have hA : ∀ q, s.heap.size ≤ q → base ≤ q := fun q hq => Nat.le_trans hv.2.2.2.2.2.2.2.1 hq
  have hneg : ¬ vi32 n < 0 := by rw [show (0 : Int32) = vi32 0 from rfl, vi32_lt cn c32_0]; omega
  have hlen : vnew h (ki : Int) n n 1 (h 3 0 0) 0 = n := by rw [vnew_at, if_neg (fun z => by have := z.1; omega), if_pos ⟨rfl, rfl⟩]
  have hty : vnew h (ki : Int) n n 0 (h 3 0 0) 0 = (ki : Int) := by rw [vnew_at, if_pos ⟨rfl, rfl⟩]
  refine va_newq hx hb hown (hts _ w1) (va_AO.of (hts _ w2)) hK hP hD hS hA hneg (vi32_clamp cn) (by omega) hc hs d ?_
  intro q cB H1 hK1 hP1 hD1 hS1
  have hra := (hK1.2 6 (cB, .object (ktn ki)) rfl).2
  have hkt : kty ki = .object (ktn ki) := by rcases (show ki = 4 ∨ ki = 5 ∨ ki = 6 by omega) with z | z | z <;> (subst z; rfl)
  have := kty_ra hK (k := ki) (by omega) (by rw [hkt]; exact hra)
  subst this
  have hce : ce cA (adN ad (h 3 0 0) q) (vnew h (ki : Int) n n) (h 3 0 0) = .inl (cA ki, n.toNat, .inr (.inr (.inr (.inr (fun _ => none))))) := by
    rw [ce_ref hki hty, hlen]
    unfold fR
    rw [mk_zero fun i => by rw [new_el (by omega)]; rfl]
  have hwo := wo_new (cA := cA) (ad := ad) (q := q) (ty := (ki : Int)) (len := n) (ns := n) o hce
  rw [← hwo] at hP1 hD1
  have k2 := K q H1 hP1 hD1 hS1
  rw [rv_ref (by omega), adN_at (by omega)] at k2
  exact k2
/-- the cell of an object, for a cast or a receiver -/
theorem wo_cell (hP : va_P D vwCl (wo cA ad h) H) (hK : va_K D vwCl (ktys cA) s) (o : hok L0 xs h) {ci : Nat} (hci : ci < 14) (e2 : h 0 r 0 = 20 + (ci : Int)) : ∃ cell : Cell, H[ad r.toNat]? = some cell ∧ cell.vm.isStatics = false ∧ s.vm.findClass (vcn ci) = some cell.cls := by
  have hr3 := hok_cls o e2
  have hat := wo_at (cA := cA) (ad := ad) hr3.1 hr3.2
  rw [ce_cls e2] at hat
  obtain ⟨T, hT⟩ := gc_at hci
  exact va_recv hK hP hT hat
theorem sr_cast (C : Cx l D cA base t0 b0 L0 xs p R s m args meth c M) (hP : va_P D vwCl (wo cA ad h) H) (o : hok L0 xs h) {k ci : Nat} (hk : vcc (vmC M) k = some ci) (e2 : r = 0 ∨ h 0 r 0 = 20 + (ci : Int)) (d : decode (vmB M) pc = .ok (.checkcast k, 3))
    (K : W p l e R s m args below meth c H locs cells slots Q (F0 m (pc + 3) ls (rv ad (1, r) :: rest))) : W p l e R s m args below meth c H locs cells slots Q (F0 m pc ls (rv ad (1, r) :: rest)) := by
  obtain ⟨hw, hci⟩ := tg_vcc hk
  obtain ⟨hx, hb, hr, hml, hown, hts, -, -, -, -, -, -, hK, hv⟩ := C
  rcases e2 with z | z
  · subst z
    exact lv_castN hx hb d K
  · have hr3 := hok_cls o z
    obtain ⟨T, hT⟩ := gc_at hci
    have hcl := wo_cell (s := s) hP hK o hci z
    rw [rv_ref (by omega)] at K ⊢
    exact va_castS hx hb hown (hts _ hw) (hK.1 ci _ hT).2 hcl d K
theorem sr_stat (C : Cx l D cA base t0 b0 L0 xs p R s m args meth c M) (hS : va_S (fun q => base ≤ q) s.heap H locs) (h1 : ad 1 = t0) (h0 : vmC M = 0) (d : decode (vmB M) pc = .ok (.getstatic 39, 3))
    (K : W p l e R s m args below meth c H locs cells slots Q (F0 m (pc + 3) ls (rv ad (1, 1) :: rest))) : W p l e R s m args below meth c H locs cells slots Q (F0 m pc ls rest) := by
  obtain ⟨hx, hb, hr, hml, hown, hts, -, -, -, -, -, -, hK, hv⟩ := C
  rw [h0] at hown
  rw [rv_ref (by decide), show ad (1 : Int).toNat = t0 from h1] at K
  exact va_gets hx hb hv.1 hS hown (hts _ (okw_t (in_1 (List.mem_of_getElem? (i := 125) rfl)) rfl)) (fun _ z => z) d K
/-- references are the same where their numbers are -/
theorem ro_inj (hD : va_D (fun q => base ≤ q) (wo cA ad h)) (h1 : ad 1 = t0) (ht : t0 < base) (o : hok L0 xs h) {a b : Int} (ha : vok (h 3 0 0) (1, a)) (hb : vok (h 3 0 0) (1, b)) (ha2 : a ≠ 2) (hb2 : b ≠ 2) : ro ad a = ro ad b ↔ a = b := by
  constructor
  · intro q
    have ha : 0 ≤ a ∧ a < h 3 0 0 := ha
    have hb : 0 ≤ b ∧ b < h 3 0 0 := hb
    unfold ro at q
    have at3 : ∀ z : Int, 3 ≤ z → z < h 3 0 0 → base ≤ ad z.toNat := fun z q1 q2 => hD.2 _ _ (wo_at q1 q2)
    have e1 : ∀ z : Int, z = 1 → ad z.toNat = t0 := fun z q1 => by rw [q1]; exact h1
    rcases (show a = 0 ∨ a = 1 ∨ 3 ≤ a by omega) with za | za | za
    · rw [if_pos za] at q
      rcases (show b = 0 ∨ ¬ b = 0 by omega) with zb | zb
      · omega
      · rw [if_neg zb] at q; cases q
    · rw [if_neg (by omega), e1 a za] at q
      rcases (show b = 0 ∨ b = 1 ∨ 3 ≤ b by omega) with zb | zb | zb
      · rw [if_pos zb] at q; cases q
      · omega
      · rw [if_neg (by omega)] at q
        have := at3 b zb hb.2
        have := Option.some.inj q
        omega
    · rw [if_neg (by omega)] at q
      have pa := at3 a za ha.2
      rcases (show b = 0 ∨ b = 1 ∨ 3 ≤ b by omega) with zb | zb | zb
      · rw [if_pos zb] at q; cases q
      · rw [if_neg (by omega), e1 b zb] at q
        have := Option.some.inj q
        omega
      · rw [if_neg (by omega)] at q
        have := hD.1 _ _ _ _ (wo_at za ha.2) (wo_at zb hb.2) (Option.some.inj q)
        omega
  · intro q; rw [q]
end MEM2
