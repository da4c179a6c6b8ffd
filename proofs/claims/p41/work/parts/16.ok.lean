def vok (n : Int) : vv → Prop
  | (0, z) => c32 z
  | (1, z) => 0 ≤ z ∧ z < n
  | (2, z) => c64 z
  | _ => True
def vkz (k : Int) : Nat := if k = 3 then 2 else if 4 ≤ k then 1 else 0
def hle (h h' : vH) : Prop := h 3 0 0 ≤ h' 3 0 0 ∧ h 4 0 0 ≤ h' 4 0 0 ∧ h 5 0 0 ≤ h' 5 0 0
theorem hle_refl {h : vH} : hle h h := ⟨Int.le_refl _, Int.le_refl _, Int.le_refl _⟩
theorem hle_trans {a b c : vH} (h1 : hle a b) (h2 : hle b c) : hle a c := ⟨Int.le_trans h1.1 h2.1, Int.le_trans h1.2.1 h2.2.1, Int.le_trans h1.2.2 h2.2.2⟩
def hok (L0 : Nat) (xs : Nat → Int32) (h : vH) : Prop :=
  3 ≤ h 3 0 0 ∧ (∀ r, h 0 r 0 ≠ 0 → 1 ≤ r ∧ r < h 3 0 0) ∧
  (∀ r, 3 ≤ r → r < h 3 0 0 → (1 ≤ h 0 r 0 ∧ h 0 r 0 ≤ 6) ∨ (20 ≤ h 0 r 0 ∧ h 0 r 0 < 34)) ∧
  (∀ (r : Int) (ci : Nat), h 0 r 0 = 20 + (ci : Int) → ∀ j, j < vn ci → vok (h 3 0 0) (vkd (vtyp ci j), h (vfc ci j) r 0)) ∧
  (∀ r, 1 ≤ h 0 r 0 → h 0 r 0 ≤ 6 → 0 ≤ h 1 r 0 ∧ h 1 r 0 ≤ 100000 ∧ ∀ i, 0 ≤ i → i < h 1 r 0 → vok (h 3 0 0) (vkz (h 0 r 0), h 2 r i)) ∧
  h 0 1 0 = 10 ∧ h 1 1 0 = 0 ∧ h 0 2 0 = 11 ∧ h 1 2 0 = (L0 : Int) ∧ ∀ i, 0 ≤ i → i < (L0 : Int) → h 2 2 i = (xs i.toNat).toInt
theorem hok_cls {L0 : Nat} {xs : Nat → Int32} {h : vH} (o : hok L0 xs h) {r : Int} {ci : Nat} (e : h 0 r 0 = 20 + (ci : Int)) : 3 ≤ r ∧ r < h 3 0 0 := by
  obtain ⟨h0, h1, h2, h3, h4, h5, h6, h7, h8, h9⟩ := o
  have q := h1 r (by omega)
  refine ⟨?_, q.2⟩
  rcases (show r = 1 ∨ r = 2 ∨ 3 ≤ r by omega) with z | z | z
  · rw [z, h5] at e; omega
  · rw [z, h7] at e; omega
  · exact z
theorem hok_arr {L0 : Nat} {xs : Nat → Int32} {h : vH} (o : hok L0 xs h) {r : Int} (e1 : 1 ≤ h 0 r 0) (e2 : h 0 r 0 ≤ 6) : 3 ≤ r ∧ r < h 3 0 0 := by
  obtain ⟨h0, h1, h2, h3, h4, h5, h6, h7, h8, h9⟩ := o
  have q := h1 r (by omega)
  refine ⟨?_, q.2⟩
  rcases (show r = 1 ∨ r = 2 ∨ 3 ≤ r by omega) with z | z | z
  · rw [z, h5] at e2; omega
  · rw [z, h7] at e2; omega
  · exact z
theorem vok_mono {n n' : Int} (h : n ≤ n') {v : vv} (o : vok n v) : vok n' v := by
  unfold vok at o ⊢
  split at o
  · exact o
  · exact ⟨o.1, Int.lt_of_lt_of_le o.2 h⟩
  · exact o
  · trivial
theorem vup_at {h : vH} {k : Nat} {r i v : Int} : vup h k r i v k r i = v := if_pos ⟨rfl, rfl, rfl⟩
theorem vup_nk {h : vH} {k k' : Nat} {r i v r' i' : Int} (e : k' ≠ k) : vup h k r i v k' r' i' = h k' r' i' := if_neg (fun z => e z.1)
theorem vup_nr {h : vH} {k k' : Nat} {r i v r' i' : Int} (e : r' ≠ r) : vup h k r i v k' r' i' = h k' r' i' := if_neg (fun z => e z.2.1)
theorem vup_ni {h : vH} {k k' : Nat} {r i v r' i' : Int} (e : i' ≠ i) : vup h k r i v k' r' i' = h k' r' i' := if_neg (fun z => e z.2.2)
theorem vn_le : ∀ ci : Nat, vn ci ≤ 63 := by
  intro ci
  unfold vn
  split <;> decide
theorem hok_putf {L0 : Nat} {xs : Nat → Int32} {h : vH} (o : hok L0 xs h) {r v : Int} {ci j : Nat} (e : h 0 r 0 = 20 + (ci : Int)) (hj : j < vn ci) (hv : vok (h 3 0 0) (vkd (vtyp ci j), v)) : hok L0 xs (vup h (vfc ci j) r 0 v) := by
  obtain ⟨h0, h1, h2, h3, h4, h5, h6, h7, h8, h9⟩ := o
  have k : ∀ k', k' < 100 → ∀ r' i', vup h (vfc ci j) r 0 v k' r' i' = h k' r' i' := fun k' hk r' i' => vup_nk (by unfold vfc; omega)
  refine ⟨by rw [k 3 (by decide)]; exact h0, fun r' => by rw [k 0 (by decide), k 3 (by decide)]; exact h1 r', fun r' => by rw [k 0 (by decide), k 3 (by decide)]; exact h2 r', ?_, fun r' => ?_, by rw [k 0 (by decide)]; exact h5, by rw [k 1 (by decide)]; exact h6, by rw [k 0 (by decide)]; exact h7, by rw [k 1 (by decide)]; exact h8, fun i => by rw [k 2 (by decide)]; exact h9 i⟩
  · intro r' c' e' j' hj'
    rw [k 0 (by decide)] at e'
    rw [k 3 (by decide)]
    by_cases hr : r' = r
    · subst hr
      have hc : c' = ci := by omega
      subst hc
      by_cases hjj : j' = j
      · subst hjj; rw [vup_at]; exact hv
      · rw [vup_nk (by unfold vfc; omega)]; exact h3 _ _ e' _ hj'
    · rw [vup_nr hr]; exact h3 _ _ e' _ hj'
  · rw [k 0 (by decide), k 3 (by decide), k 1 (by decide)]
    intro a b
    obtain ⟨q1, q2, q3⟩ := h4 r' a b
    exact ⟨q1, q2, fun i => by rw [k 2 (by decide)]; exact q3 i⟩
theorem hok_pute {L0 : Nat} {xs : Nat → Int32} {h : vH} (o : hok L0 xs h) {r i v : Int} (e1 : 1 ≤ h 0 r 0) (e2 : h 0 r 0 ≤ 6) (hv : vok (h 3 0 0) (vkz (h 0 r 0), v)) : hok L0 xs (vup h 2 r i v) := by
  have hr3 := hok_arr o e1 e2
  obtain ⟨h0, h1, h2, h3, h4, h5, h6, h7, h8, h9⟩ := o
  have k : ∀ k', k' ≠ 2 → ∀ r' i', vup h 2 r i v k' r' i' = h k' r' i' := fun k' hk r' i' => vup_nk hk
  refine ⟨by rw [k 3 (by decide)]; exact h0, fun r' => by rw [k 0 (by decide), k 3 (by decide)]; exact h1 r', fun r' => by rw [k 0 (by decide), k 3 (by decide)]; exact h2 r', ?_, fun r' => ?_, by rw [k 0 (by decide)]; exact h5, by rw [k 1 (by decide)]; exact h6, by rw [k 0 (by decide)]; exact h7, by rw [k 1 (by decide)]; exact h8, fun i' a b => by rw [vup_nr (by omega)]; exact h9 i' a b⟩
  · intro r' c' e' j' hj'
    rw [k 0 (by decide)] at e'
    rw [k 3 (by decide), k (vfc c' j') (by unfold vfc; omega)]
    exact h3 _ _ e' _ hj'
  · rw [k 0 (by decide), k 3 (by decide), k 1 (by decide)]
    intro a b
    obtain ⟨q1, q2, q3⟩ := h4 r' a b
    refine ⟨q1, q2, fun i' a' b' => ?_⟩
    by_cases hr : r' = r
    · subst hr
      by_cases hi : i' = i
      · subst hi; rw [vup_at]; exact hv
      · rw [vup_ni hi]; exact q3 i' a' b'
    · rw [vup_nr hr]; exact q3 i' a' b'
theorem hok_cp {L0 : Nat} {xs : Nat → Int32} {h : vH} (o : hok L0 xs h) {a sp b dp n : Int} (ea : 1 ≤ h 0 a 0) (e2 : h 0 b 0 ≤ 6) (hk : h 0 a 0 = h 0 b 0) (h0n : 0 ≤ sp) (h1n : sp + n ≤ h 1 a 0) : hok L0 xs (vcp h a sp b dp n) := by
  have hr3 := hok_arr o (r := b) (by omega) e2
  obtain ⟨h0, h1, h2, h3, h4, h5, h6, h7, h8, h9⟩ := o
  have k : ∀ k', k' ≠ 2 → ∀ r' i', vcp h a sp b dp n k' r' i' = h k' r' i' := fun k' hk r' i' => if_neg (fun z => hk z.1)
  refine ⟨by rw [k 3 (by decide)]; exact h0, fun r' => by rw [k 0 (by decide), k 3 (by decide)]; exact h1 r', fun r' => by rw [k 0 (by decide), k 3 (by decide)]; exact h2 r', ?_, fun r' => ?_, by rw [k 0 (by decide)]; exact h5, by rw [k 1 (by decide)]; exact h6, by rw [k 0 (by decide)]; exact h7, by rw [k 1 (by decide)]; exact h8, fun i' p q => ?_⟩
  · intro r' c' e' j' hj'
    rw [k 0 (by decide)] at e'
    rw [k 3 (by decide), k (vfc c' j') (by unfold vfc; omega)]
    exact h3 _ _ e' _ hj'
  · rw [k 0 (by decide), k 3 (by decide), k 1 (by decide)]
    intro p q
    obtain ⟨q1, q2, q3⟩ := h4 r' p q
    refine ⟨q1, q2, fun i' a' b' => ?_⟩
    unfold vcp
    split
    · rename_i z
      rw [z.2.1, ← hk]
      exact (h4 a ea (by omega)).2.2 _ (by omega) (by omega)
    · exact q3 i' a' b'
  · unfold vcp
    rw [if_neg (fun z => by omega)]
    exact h9 i' p q
theorem vok_zero {n : Int} (hn : 0 < n) (k : Nat) : vok n (k, 0) := by
  unfold vok
  split
  · rename_i h; cases h; exact c32_0
  · rename_i h; cases h; exact ⟨Int.le_refl _, hn⟩
  · rename_i h; cases h; exact ⟨by decide, by decide⟩
  · trivial
theorem vnew_at {h : vH} {ty len ns : Int} {k : Nat} {i : Int} : vnew h ty len ns k (h 3 0 0) i = (if k = 0 ∧ i = 0 then ty else if k = 1 ∧ i = 0 then len else 0) := if_pos rfl
theorem vnew_lt {h : vH} {ty len ns : Int} {k : Nat} {r i : Int} (e : r ≠ h 3 0 0) (e0 : r ≠ 0) : vnew h ty len ns k r i = h k r i := by
  unfold vnew
  rw [if_neg e, if_neg (fun z => e0 z.1), if_neg (fun z => e0 z.1), if_neg (fun z => e0 z.1)]
theorem vnew_nx {h : vH} {ty len ns : Int} (e : h 3 0 0 ≠ 0) : vnew h ty len ns 3 0 0 = h 3 0 0 + 1 := by
  unfold vnew
  rw [if_neg (fun z => e z.symm), if_pos ⟨rfl, rfl, rfl⟩]
theorem vnew_nc {h : vH} {ty len ns : Int} (e : h 3 0 0 ≠ 0) : vnew h ty len ns 4 0 0 = h 4 0 0 + 1 := by
  unfold vnew
  rw [if_neg (fun z => e z.symm), if_neg (fun z => by have := z.2.2; omega), if_pos ⟨rfl, rfl, rfl⟩]
theorem vnew_ns {h : vH} {ty len ns : Int} (e : h 3 0 0 ≠ 0) : vnew h ty len ns 5 0 0 = h 5 0 0 + ns := by
  unfold vnew
  rw [if_neg (fun z => e z.symm), if_neg (fun z => by have := z.2.2; omega), if_neg (fun z => by have := z.2.2; omega), if_pos ⟨rfl, rfl, rfl⟩]
theorem vnew_ty {h : vH} {ty len ns : Int} (e : h 3 0 0 ≠ 0) (r : Int) : vnew h ty len ns 0 r 0 = if r = h 3 0 0 then ty else h 0 r 0 := by
  unfold vnew
  by_cases q : r = h 3 0 0
  · rw [if_pos q, if_pos q, if_pos ⟨rfl, rfl⟩]
  · rw [if_neg q, if_neg q, if_neg (fun z => by have := z.2.2; omega), if_neg (fun z => by have := z.2.2; omega), if_neg (fun z => by have := z.2.2; omega)]
theorem vnew_hle {h : vH} {ty len ns : Int} (e : 3 ≤ h 3 0 0) (hs : 0 ≤ ns) : hle h (vnew h ty len ns) := by
  refine ⟨?_, ?_, ?_⟩
  · rw [vnew_nx (by omega)]; omega
  · rw [vnew_nc (by omega)]; omega
  · rw [vnew_ns (by omega)]; omega
theorem hok_new {L0 : Nat} {xs : Nat → Int32} {h : vH} (o : hok L0 xs h) {ty len ns : Int} (ht : (1 ≤ ty ∧ ty ≤ 6) ∨ (20 ≤ ty ∧ ty < 34)) (hl : 0 ≤ len ∧ len ≤ 100000) : hok L0 xs (vnew h ty len ns) := by
  obtain ⟨h0, h1, h2, h3, h4, h5, h6, h7, h8, h9⟩ := o
  have n0 : h 3 0 0 ≠ 0 := by omega
  have hz : h 0 (h 3 0 0) 0 = 0 := Decidable.byContradiction fun q => by have := (h1 _ q).2; omega
  have h00 : h 0 0 0 = 0 := Decidable.byContradiction fun q => by have := (h1 _ q).1; omega
  refine ⟨by rw [vnew_nx n0]; omega, fun r => ?_, fun r a b => ?_, fun r ci e j hj => ?_, fun r a b => ?_, ?_, ?_, ?_, ?_, fun i a b => ?_⟩
  · rw [vnew_ty n0, vnew_nx n0]
    split
    · intro _; omega
    · intro q; have := h1 r q; omega
  · rw [vnew_nx n0] at b
    rw [vnew_ty n0]
    split
    · exact ht
    · exact h2 r a (by omega)
  · rw [vnew_ty n0] at e
    rw [vnew_nx n0]
    by_cases q : r = h 3 0 0
    · rw [q, vnew_at, if_neg (fun z => by have := z.1; unfold vfc at this; omega), if_neg (fun z => by have := z.1; unfold vfc at this; omega)]
      exact vok_zero (by omega) _
    · rw [if_neg q] at e
      have hr := h1 r (by omega)
      rw [vnew_lt q (by omega)]
      exact vok_mono (by omega) (h3 r ci e j hj)
  · rw [vnew_ty n0] at a b
    rw [vnew_nx n0, vnew_ty n0]
    by_cases q : r = h 3 0 0
    · rw [if_pos q] at a b
      rw [if_pos q, q, vnew_at, if_neg (fun z => by have := z.1; omega), if_pos ⟨rfl, rfl⟩]
      refine ⟨hl.1, hl.2, fun i _ _ => ?_⟩
      rw [vnew_at, if_neg (fun z => by have := z.1; omega), if_neg (fun z => by have := z.1; omega)]
      exact vok_zero (by omega) _
    · rw [if_neg q] at a b
      rw [if_neg q]
      have hr := h1 r (by omega)
      rw [vnew_lt q (by omega)]
      obtain ⟨q1, q2, q3⟩ := h4 r a b
      exact ⟨q1, q2, fun i x y => by rw [vnew_lt q (by omega)]; exact vok_mono (by omega) (q3 i x y)⟩
  · rw [vnew_lt (by omega) (by omega)]; exact h5
  · rw [vnew_lt (by omega) (by omega)]; exact h6
  · rw [vnew_lt (by omega) (by omega)]; exact h7
  · rw [vnew_lt (by omega) (by omega)]; exact h8
  · rw [vnew_lt (by omega) (by omega)]; exact h9 i a b
theorem vexc_k {h : vH} {k : Nat} (e : k ≠ 4) (e2 : k ≠ 5) (r i : Int) : vexc h k r i = h k r i := by
  unfold vexc
  rw [if_neg (fun z => e z.2.2), if_neg (fun z => e2 z.2.2)]
theorem vexc_hle {h : vH} : hle h (vexc h) := by
  refine ⟨?_, ?_, ?_⟩
  · rw [vexc_k (by decide) (by decide)]; exact Int.le_refl _
  · show _ ≤ (if (0 : Int) = 0 ∧ (0 : Int) = 0 ∧ (4 : Nat) = 4 then h 4 0 0 + 1 else _)
    rw [if_pos ⟨rfl, rfl, rfl⟩]; omega
  · show _ ≤ (if (0 : Int) = 0 ∧ (0 : Int) = 0 ∧ (5 : Nat) = 4 then h 4 0 0 + 1 else if (0 : Int) = 0 ∧ (0 : Int) = 0 ∧ (5 : Nat) = 5 then h 5 0 0 + 6 else _)
    rw [if_neg (fun z => by have := z.2.2; omega), if_pos ⟨rfl, rfl, rfl⟩]; omega
theorem hok_exc {L0 : Nat} {xs : Nat → Int32} {h : vH} (o : hok L0 xs h) : hok L0 xs (vexc h) := by
  obtain ⟨h0, h1, h2, h3, h4, h5, h6, h7, h8, h9⟩ := o
  have k : ∀ k', k' ≠ 4 → k' ≠ 5 → ∀ r i, vexc h k' r i = h k' r i := fun _ a b r i => vexc_k a b r i
  refine ⟨by rw [k 3 (by decide) (by decide)]; exact h0, fun r' => by rw [k 0 (by decide) (by decide), k 3 (by decide) (by decide)]; exact h1 r', fun r' => by rw [k 0 (by decide) (by decide), k 3 (by decide) (by decide)]; exact h2 r', ?_, fun r' => ?_, by rw [k 0 (by decide) (by decide)]; exact h5, by rw [k 1 (by decide) (by decide)]; exact h6, by rw [k 0 (by decide) (by decide)]; exact h7, by rw [k 1 (by decide) (by decide)]; exact h8, fun i => by rw [k 2 (by decide) (by decide)]; exact h9 i⟩
  · intro r' c' e' j' hj'
    rw [k 0 (by decide) (by decide)] at e'
    rw [k 3 (by decide) (by decide), k (vfc c' j') (by unfold vfc; omega) (by unfold vfc; omega)]
    exact h3 _ _ e' _ hj'
  · rw [k 0 (by decide) (by decide), k 3 (by decide) (by decide), k 1 (by decide) (by decide)]
    intro a b
    obtain ⟨q1, q2, q3⟩ := h4 r' a b
    exact ⟨q1, q2, fun i => by rw [k 2 (by decide) (by decide)]; exact q3 i⟩
def okS (L0 : Nat) (xs : Nat → Int32) (h : vH) (L S : List vv) : Prop := hok L0 xs h ∧ (∀ v ∈ L, vok (h 3 0 0) v) ∧ ∀ v ∈ S, vok (h 3 0 0) v
section OKS
variable {L0 : Nat} {xs : Nat → Int32} {h : vH} {L S : List vv}
theorem ok_push {v : vv} (o : okS L0 xs h L S) (hv : vok (h 3 0 0) v) : okS L0 xs h L (v :: S) := ⟨o.1, o.2.1, List.forall_mem_cons.mpr ⟨hv, o.2.2⟩⟩
theorem ok_tail {v : vv} (o : okS L0 xs h L (v :: S)) : okS L0 xs h L S := ⟨o.1, o.2.1, (List.forall_mem_cons.mp o.2.2).2⟩
theorem ok_head {v : vv} (o : okS L0 xs h L (v :: S)) : vok (h 3 0 0) v := (List.forall_mem_cons.mp o.2.2).1
theorem ok_loc {i : Nat} {v : vv} (o : okS L0 xs h L S) (hl : L[i]? = some v) : vok (h 3 0 0) v := o.2.1 _ (List.mem_of_getElem? hl)
theorem vset_mem {v w : vv} {i : Nat} (hw : w ∈ vset L i v) : w = v ∨ w = (9, 0) ∨ w ∈ L := by
  unfold vset at hw
  split at hw
  · rcases List.mem_or_eq_of_mem_set hw with q | q
    · exact Or.inr (Or.inr q)
    · exact Or.inl q
  · rcases List.mem_or_eq_of_mem_set hw with q | q
    · split at q
      · rcases List.mem_or_eq_of_mem_set q with q | q
        · exact Or.inr (Or.inr q)
        · exact Or.inr (Or.inl q)
      · exact Or.inr (Or.inr q)
    · exact Or.inl q
theorem vset_len {v : vv} {i : Nat} : (vset L i v).length = L.length := by
  unfold vset
  split
  · exact List.length_set
  · rw [List.length_set]
    split
    · exact List.length_set
    · rfl
theorem ok_set {v : vv} {i : Nat} (o : okS L0 xs h L S) (hv : vok (h 3 0 0) v) : okS L0 xs h (vset L i v) S := by
  refine ⟨o.1, fun w hw => ?_, o.2.2⟩
  rcases vset_mem hw with q | q | q
  · rw [q]; exact hv
  · rw [q]; trivial
  · exact o.2.1 w q
theorem ok_set2 {v : vv} {i : Nat} (o : okS L0 xs h L S) (hv : vok (h 3 0 0) v) : okS L0 xs h (vset2 L i v) S := by
  refine ⟨o.1, fun w hw => ?_, o.2.2⟩
  unfold vset2 at hw
  rcases List.mem_or_eq_of_mem_set hw with q | q
  · exact (ok_set o hv).2.1 w q
  · rw [q]; trivial
theorem ok_heap {h' : vH} (o : okS L0 xs h L S) (hk : hok L0 xs h') (hn : h 3 0 0 ≤ h' 3 0 0) : okS L0 xs h' L S := ⟨hk, fun v hv => vok_mono hn (o.2.1 v hv), fun v hv => vok_mono hn (o.2.2 v hv)⟩
theorem vgo_inj {pc : Nat} {q : Nat × List vv × List vv × vH} (a : vgo pc L S h = some (.inr (.inl q))) : q = (pc, L, S, h) := by
  unfold vgo at a
  injection a with a
  injection a with a
  injection a with a
  exact a.symm
theorem vjmp_inj {pc : Nat} {off : Int} {q : Nat × List vv × List vv × vH} (a : vjmp pc off L S h = some (.inr (.inl q))) : ∃ t : Nat, (pc : Int) + off = (t : Int) ∧ q = (t, L, S, h) := by
  unfold vjmp at a
  split at a
  · rename_i e
    injection a with a
    injection a with a
    injection a with a
    exact ⟨((pc : Int) + off).toNat, (Int.toNat_of_nonneg e).symm, a.symm⟩
  · cases a
theorem vbr_inj {c : Bool} {pc : Nat} {off : Int} {q : Nat × List vv × List vv × vH} (a : vbr c pc off L S h = some (.inr (.inl q))) : ∃ t : Nat, (pc : Int) + off = (t : Int) ∧ ((c = true ∧ q = (t, L, S, h)) ∨ (c = false ∧ q = (pc + 3, L, S, h))) := by
  unfold vbr at a
  split at a
  · rename_i e
    refine ⟨((pc : Int) + off).toNat, (Int.toNat_of_nonneg e).symm, ?_⟩
    split at a
    · rename_i e2; exact Or.inl ⟨e2, vgo_inj a⟩
    · rename_i e2; exact Or.inr ⟨by simpa using e2, vgo_inj a⟩
  · cases a
theorem vcall_no {m y : vM} {pc : Nat} {as rest : List vv} {q : Nat × List vv × List vv × vH} (a : vcall m y pc as rest = some (.inr (.inl q))) : False := by
  unfold vcall at a
  split at a
  · cases a
  · cases a
end OKS
theorem vI_ok {n : Int} (x : Int32) : vok n (vI x) := i32_c x
theorem vL_ok {n : Int} (x : Int64) : vok n (vL x) := i64_c x
