theorem lk_mem {α : Type} {l : List (Nat × α)} {k : Nat} {v : α} (h : l.lookup k = some v) : (k, v) ∈ l := by
  induction l with
  | nil => cases h
  | cons a l ih =>
    obtain ⟨x, y⟩ := a
    rw [List.lookup_cons] at h
    by_cases e : k == x
    · rw [e] at h
      cases h
      rw [eq_of_beq e]
      exact List.mem_cons_self
    · simp only [e] at h
      exact List.mem_cons_of_mem _ (ih h)
theorem tb_vfr {o k : Nat} {q : Nat × Nat × Bool} (h : vfr o k = some q) : q.1 < 14 ∧ q.2.1 < vn q.1 := by
  unfold vfr at h
  split at h
  · exact (by decide +kernel : ∀ e ∈ vfrT_0, e.2.1 < 14 ∧ e.2.2.1 < vn e.2.1) _ (lk_mem h)
  · exact (by decide +kernel : ∀ e ∈ vfrT_1, e.2.1 < 14 ∧ e.2.2.1 < vn e.2.1) _ (lk_mem h)
  · exact (by decide +kernel : ∀ e ∈ vfrT_2, e.2.1 < 14 ∧ e.2.2.1 < vn e.2.1) _ (lk_mem h)
  · exact (by decide +kernel : ∀ e ∈ vfrT_3, e.2.1 < 14 ∧ e.2.2.1 < vn e.2.1) _ (lk_mem h)
  · exact (by decide +kernel : ∀ e ∈ vfrT_4, e.2.1 < 14 ∧ e.2.2.1 < vn e.2.1) _ (lk_mem h)
  · exact (by decide +kernel : ∀ e ∈ vfrT_5, e.2.1 < 14 ∧ e.2.2.1 < vn e.2.1) _ (lk_mem h)
  · exact (by decide +kernel : ∀ e ∈ vfrT_6, e.2.1 < 14 ∧ e.2.2.1 < vn e.2.1) _ (lk_mem h)
  · exact (by decide +kernel : ∀ e ∈ vfrT_7, e.2.1 < 14 ∧ e.2.2.1 < vn e.2.1) _ (lk_mem h)
  · exact (by decide +kernel : ∀ e ∈ vfrT_8, e.2.1 < 14 ∧ e.2.2.1 < vn e.2.1) _ (lk_mem h)
  · exact (by decide +kernel : ∀ e ∈ vfrT_9, e.2.1 < 14 ∧ e.2.2.1 < vn e.2.1) _ (lk_mem h)
  · exact (by decide +kernel : ∀ e ∈ vfrT_10, e.2.1 < 14 ∧ e.2.2.1 < vn e.2.1) _ (lk_mem h)
  · exact (by decide +kernel : ∀ e ∈ vfrT_11, e.2.1 < 14 ∧ e.2.2.1 < vn e.2.1) _ (lk_mem h)
  · exact (by decide +kernel : ∀ e ∈ vfrT_12, e.2.1 < 14 ∧ e.2.2.1 < vn e.2.1) _ (lk_mem h)
  · exact (by decide +kernel : ∀ e ∈ vfrT_13, e.2.1 < 14 ∧ e.2.2.1 < vn e.2.1) _ (lk_mem h)
  · exact (by decide +kernel : ∀ e ∈ vfrT_21, e.2.1 < 14 ∧ e.2.2.1 < vn e.2.1) _ (lk_mem h)
  · cases h
theorem tb_vnr {o k : Nat} {q : Nat} (h : vnr o k = some q) : q < 14 := by
  unfold vnr at h
  split at h
  · exact (by decide +kernel : ∀ e ∈ vnrT_3, e.2 < 14) _ (lk_mem h)
  · exact (by decide +kernel : ∀ e ∈ vnrT_6, e.2 < 14) _ (lk_mem h)
  · exact (by decide +kernel : ∀ e ∈ vnrT_9, e.2 < 14) _ (lk_mem h)
  · exact (by decide +kernel : ∀ e ∈ vnrT_11, e.2 < 14) _ (lk_mem h)
  · exact (by decide +kernel : ∀ e ∈ vnrT_12, e.2 < 14) _ (lk_mem h)
  · exact (by decide +kernel : ∀ e ∈ vnrT_13, e.2 < 14) _ (lk_mem h)
  · exact (by decide +kernel : ∀ e ∈ vnrT_20, e.2 < 14) _ (lk_mem h)
  · cases h
theorem tb_vaq {o k : Nat} {q : Nat} (h : vaq o k = some q) : 4 ≤ q ∧ q ≤ 6 := by
  unfold vaq at h
  split at h
  · exact (by decide +kernel : ∀ e ∈ vaqT_0, 4 ≤ e.2 ∧ e.2 ≤ 6) _ (lk_mem h)
  · exact (by decide +kernel : ∀ e ∈ vaqT_11, 4 ≤ e.2 ∧ e.2 ≤ 6) _ (lk_mem h)
  · exact (by decide +kernel : ∀ e ∈ vaqT_13, 4 ≤ e.2 ∧ e.2 ≤ 6) _ (lk_mem h)
  · cases h
theorem tb_vic {o k : Nat} {q : Int} (h : vic o k = some q) : -2147483648 ≤ q ∧ q < 2147483648 := by
  unfold vic at h
  split at h
  · exact (by decide +kernel : ∀ e ∈ vicT_20, -2147483648 ≤ e.2 ∧ e.2 < 2147483648) _ (lk_mem h)
  · cases h
theorem tb_vlc {o k : Nat} {q : Int} (h : vlc o k = some q) : -9223372036854775808 ≤ q ∧ q < 9223372036854775808 := by
  unfold vlc at h
  split at h
  · exact (by decide +kernel : ∀ e ∈ vlcT_12, -9223372036854775808 ≤ e.2 ∧ e.2 < 9223372036854775808) _ (lk_mem h)
  · exact (by decide +kernel : ∀ e ∈ vlcT_20, -9223372036854775808 ≤ e.2 ∧ e.2 < 9223372036854775808) _ (lk_mem h)
  · cases h
theorem c32_cmp (a b : Int) : c32 (if b < a then 1 else if a = b then 0 else -1) := by
  split
  · exact ⟨by decide, by decide⟩
  · split
    · exact ⟨by decide, by decide⟩
    · exact ⟨by decide, by decide⟩
theorem c64_i {a : Int} (h : c32 a) : c64 a := by
  unfold c32 at h
  unfold c64
  omega
theorem hok_one {L0 : Nat} {xs : Nat → Int32} {h : vH} (o : hok L0 xs h) {r : Int} (e : h 0 r 0 = 10) : r = 1 := by
  obtain ⟨h0, h1, h2, h3, h4, h5, h6, h7, h8, h9⟩ := o
  have q := h1 r (by omega)
  rcases (show r = 1 ∨ r = 2 ∨ 3 ≤ r by omega) with z | z | z
  · exact z
  · rw [z, h7] at e; omega
  · have := h2 r z q.2; omega
theorem hok_scr {L0 : Nat} {xs : Nat → Int32} {h : vH} (o : hok L0 xs h) {r : Int} (e : h 0 r 0 = 11) : r = 2 := by
  obtain ⟨h0, h1, h2, h3, h4, h5, h6, h7, h8, h9⟩ := o
  have q := h1 r (by omega)
  rcases (show r = 1 ∨ r = 2 ∨ 3 ≤ r by omega) with z | z | z
  · rw [z, h5] at e; omega
  · exact z
  · have := h2 r z q.2; omega
theorem vlen_of {h : vH} {r : Int} (e : vlen h r = true) : (1 ≤ h 0 r 0 ∧ h 0 r 0 ≤ 6) ∨ h 0 r 0 = 10 ∨ h 0 r 0 = 11 := by
  unfold vlen at e
  simp only [Bool.or_eq_true, beq_iff_eq] at e
  omega
theorem hok_len {L0 : Nat} (hL0 : L0 ≤ 100000) {xs : Nat → Int32} {h : vH} (o : hok L0 xs h) {r : Int} (e : vlen h r = true) : c32 (h 1 r 0) := by
  rcases vlen_of e with z | z | z
  · have := o.2.2.2.2.1 r z.1 z.2
    exact ⟨by omega, by omega⟩
  · rw [hok_one o z, o.2.2.2.2.2.2.1]; exact c32_0
  · rw [hok_scr o z, o.2.2.2.2.2.2.2.2.1]; exact ⟨by omega, by omega⟩
theorem vup_hle (h : vH) {k : Nat} {r i v : Int} (e : k = 2 ∨ 6 ≤ k) : hle h (vup h k r i v) := by
  refine ⟨?_, ?_, ?_⟩
  all_goals (rw [vup_nk (by omega)]; exact Int.le_refl _)
theorem vup_hle2 (h : vH) (r i v : Int) : hle h (vup h 2 r i v) := vup_hle h (Or.inl rfl)
theorem vin_of {h : vH} {r i : Int} (e : vin h r i = true) : 0 ≤ i ∧ i < h 1 r 0 := by
  unfold vin at e
  rw [Bool.and_eq_true, decide_eq_true_eq, decide_eq_true_eq] at e
  exact e
theorem vcp_nk {h : vH} {a sp b dp n : Int} {k : Nat} {r i : Int} (e : k ≠ 2) : vcp h a sp b dp n k r i = h k r i := if_neg (fun z => e z.1)
theorem vcpok_k {h : vH} {a sp b n : Int} (e : vcpok h a sp b n) : (1 ≤ h 0 a 0 ∧ h 0 a 0 ≤ 6) ∧ h 0 a 0 = h 0 b 0 := by
  rcases e with ⟨e1, e2⟩ | ⟨e1, e2, -⟩ | ⟨e1, e2, -⟩ <;> (rw [e1, e2]; exact ⟨⟨by decide, by decide⟩, rfl⟩)

set_option maxHeartbeats 4000000 in
theorem act_ok {L0 : Nat} (hL0 : L0 ≤ 100000) {xs : Nat → Int32} {ig : Instr} {m : vM} {pc : Nat} {L S : List vv} {h : vH} {q : Nat × List vv × List vv × vH} (o : okS L0 xs h L S) (a : vact1 ig m pc L S h = some (.inr (.inl q))) : okS L0 xs q.2.2.2 q.2.1 q.2.2.1 ∧ hle h q.2.2.2 ∧ q.2.1.length = L.length := by
  cases ig with
  | aload_n k =>
    dsimp only [vact1] at a
    split at a
    · rename_i x hx
      rw [vgo_inj a]
      exact ⟨ok_push o (ok_loc o hx), hle_refl, rfl⟩
    · cases a
  | astore_n k =>
    dsimp only [vact1] at a
    split at a
    · split at a
      · rw [vgo_inj a]
        exact ⟨ok_set (ok_tail o) (ok_head o), hle_refl, vset_len⟩
      · cases a
    · cases a
  | aload k =>
    dsimp only [vact1] at a
    split at a
    · rename_i x hx
      rw [vgo_inj a]
      exact ⟨ok_push o (ok_loc o hx), hle_refl, rfl⟩
    · cases a
  | astore k =>
    dsimp only [vact1] at a
    split at a
    · split at a
      · rw [vgo_inj a]
        exact ⟨ok_set (ok_tail o) (ok_head o), hle_refl, vset_len⟩
      · cases a
    · cases a
  | iload_n k =>
    dsimp only [vact1] at a
    split at a
    · rename_i x hx
      rw [vgo_inj a]
      exact ⟨ok_push o (ok_loc o hx), hle_refl, rfl⟩
    · cases a
  | istore_n k =>
    dsimp only [vact1] at a
    split at a
    · split at a
      · rw [vgo_inj a]
        exact ⟨ok_set (ok_tail o) (ok_head o), hle_refl, vset_len⟩
      · cases a
    · cases a
  | iload k =>
    dsimp only [vact1] at a
    split at a
    · rename_i x hx
      rw [vgo_inj a]
      exact ⟨ok_push o (ok_loc o hx), hle_refl, rfl⟩
    · cases a
  | istore k =>
    dsimp only [vact1] at a
    split at a
    · split at a
      · rw [vgo_inj a]
        exact ⟨ok_set (ok_tail o) (ok_head o), hle_refl, vset_len⟩
      · cases a
    · cases a
  | lload_n k =>
    dsimp only [vact1] at a
    split at a
    · rename_i x hx
      rw [vgo_inj a]
      exact ⟨ok_push o (ok_loc o hx), hle_refl, rfl⟩
    · cases a
  | lstore_n k =>
    dsimp only [vact1] at a
    split at a
    · split at a
      · rw [vgo_inj a]
        exact ⟨ok_set2 (ok_tail o) (ok_head o), hle_refl, by show (vset2 _ _ _).length = _; unfold vset2; rw [List.length_set]; exact vset_len⟩
      · cases a
    · cases a
  | lload k =>
    dsimp only [vact1] at a
    split at a
    · rename_i x hx
      rw [vgo_inj a]
      exact ⟨ok_push o (ok_loc o hx), hle_refl, rfl⟩
    · cases a
  | lstore k =>
    dsimp only [vact1] at a
    split at a
    · split at a
      · rw [vgo_inj a]
        exact ⟨ok_set2 (ok_tail o) (ok_head o), hle_refl, by show (vset2 _ _ _).length = _; unfold vset2; rw [List.length_set]; exact vset_len⟩
      · cases a
    · cases a
  | iinc k n =>
    dsimp only [vact1] at a
    split at a
    · split at a
      · rw [vgo_inj a]
        exact ⟨ok_set o (w32_c _), hle_refl, vset_len⟩
      · cases a
    · cases a
  | iconst n =>
    dsimp only [vact1] at a
    split at a
    · rename_i e
      rw [vgo_inj a]
      exact ⟨ok_push o (e), hle_refl, rfl⟩
    · cases a
  | bipush n =>
    dsimp only [vact1] at a
    split at a
    · rename_i e
      rw [vgo_inj a]
      exact ⟨ok_push o (show c32 _ from ⟨by omega, by omega⟩), hle_refl, rfl⟩
    · cases a
  | sipush n =>
    dsimp only [vact1] at a
    split at a
    · rename_i e
      rw [vgo_inj a]
      exact ⟨ok_push o (show c32 _ from ⟨by omega, by omega⟩), hle_refl, rfl⟩
    · cases a
  | lconst n =>
    dsimp only [vact1] at a
    rw [vgo_inj a]
    exact ⟨ok_push o (show c64 _ from ⟨by omega, by have := n.isLt; omega⟩), hle_refl, rfl⟩
  | ldc2_w k =>
    dsimp only [vact1] at a
    split at a
    · rename_i z hz
      rw [vgo_inj a]
      exact ⟨ok_push o (tb_vlc hz), hle_refl, rfl⟩
    · cases a
  | ldc k =>
    dsimp only [vact1] at a
    split at a
    · rename_i z hz
      rw [vgo_inj a]
      exact ⟨ok_push o (tb_vic hz), hle_refl, rfl⟩
    · cases a
  | aconst_null  =>
    dsimp only [vact1] at a
    rw [vgo_inj a]
    exact ⟨ok_push o ⟨Int.le_refl _, Int.lt_of_lt_of_le (by decide) o.1.1⟩, hle_refl, rfl⟩
  | iadd  =>
    dsimp only [vact1] at a
    split at a
    · rw [vgo_inj a]
      exact ⟨ok_push (ok_tail (ok_tail o)) (w32_c _), hle_refl, rfl⟩
    · cases a
  | isub  =>
    dsimp only [vact1] at a
    split at a
    · rw [vgo_inj a]
      exact ⟨ok_push (ok_tail (ok_tail o)) (w32_c _), hle_refl, rfl⟩
    · cases a
  | imul  =>
    dsimp only [vact1] at a
    split at a
    · rw [vgo_inj a]
      exact ⟨ok_push (ok_tail (ok_tail o)) (w32_c _), hle_refl, rfl⟩
    · cases a
  | idiv  =>
    dsimp only [vact1] at a
    split at a
    · split at a
      · cases a
      · rw [vgo_inj a]
        exact ⟨ok_push (ok_tail (ok_tail o)) (w32_c _), hle_refl, rfl⟩
    · cases a
  | irem  =>
    dsimp only [vact1] at a
    split at a
    · split at a
      · cases a
      · rw [vgo_inj a]
        exact ⟨ok_push (ok_tail (ok_tail o)) (show c32 _ from c32_tmod (ok_head (ok_tail o)) (ok_head o)), hle_refl, rfl⟩
    · cases a
  | ineg  =>
    dsimp only [vact1] at a
    split at a
    · rw [vgo_inj a]
      exact ⟨ok_push (ok_tail o) (w32_c _), hle_refl, rfl⟩
    · cases a
  | iand  =>
    dsimp only [vact1] at a
    split at a
    · rw [vgo_inj a]
      exact ⟨ok_push (ok_tail (ok_tail o)) (vI_ok _), hle_refl, rfl⟩
    · cases a
  | ior  =>
    dsimp only [vact1] at a
    split at a
    · rw [vgo_inj a]
      exact ⟨ok_push (ok_tail (ok_tail o)) (vI_ok _), hle_refl, rfl⟩
    · cases a
  | ishl  =>
    dsimp only [vact1] at a
    split at a
    · rw [vgo_inj a]
      exact ⟨ok_push (ok_tail (ok_tail o)) (vI_ok _), hle_refl, rfl⟩
    · cases a
  | ishr  =>
    dsimp only [vact1] at a
    split at a
    · rw [vgo_inj a]
      exact ⟨ok_push (ok_tail (ok_tail o)) (vI_ok _), hle_refl, rfl⟩
    · cases a
  | i2l  =>
    dsimp only [vact1] at a
    split at a
    · rw [vgo_inj a]
      exact ⟨ok_push (ok_tail o) (c64_i (ok_head o)), hle_refl, rfl⟩
    · cases a
  | l2i  =>
    dsimp only [vact1] at a
    split at a
    · rw [vgo_inj a]
      exact ⟨ok_push (ok_tail o) (w32_c _), hle_refl, rfl⟩
    · cases a
  | land  =>
    dsimp only [vact1] at a
    split at a
    · rw [vgo_inj a]
      exact ⟨ok_push (ok_tail (ok_tail o)) (vL_ok _), hle_refl, rfl⟩
    · cases a
  | lor  =>
    dsimp only [vact1] at a
    split at a
    · rw [vgo_inj a]
      exact ⟨ok_push (ok_tail (ok_tail o)) (vL_ok _), hle_refl, rfl⟩
    · cases a
  | lshr  =>
    dsimp only [vact1] at a
    split at a
    · rw [vgo_inj a]
      exact ⟨ok_push (ok_tail (ok_tail o)) (vL_ok _), hle_refl, rfl⟩
    · cases a
  | lshl  =>
    dsimp only [vact1] at a
    split at a
    · rw [vgo_inj a]
      exact ⟨ok_push (ok_tail (ok_tail o)) (vL_ok _), hle_refl, rfl⟩
    · cases a
  | lushr  =>
    dsimp only [vact1] at a
    split at a
    · rw [vgo_inj a]
      exact ⟨ok_push (ok_tail (ok_tail o)) (vL_ok _), hle_refl, rfl⟩
    · cases a
  | lcmp  =>
    dsimp only [vact1] at a
    split at a
    · rw [vgo_inj a]
      exact ⟨ok_push (ok_tail (ok_tail o)) (c32_cmp _ _), hle_refl, rfl⟩
    · cases a
  | dup  =>
    dsimp only [vact1] at a
    split at a
    · split at a
      · rw [vgo_inj a]
        exact ⟨ok_push o (ok_head o), hle_refl, rfl⟩
      · cases a
    · cases a
  | dup_x1  =>
    dsimp only [vact1] at a
    split at a
    · split at a
      · rw [vgo_inj a]
        exact ⟨ok_push (ok_push (ok_push (ok_tail (ok_tail o)) (ok_head o)) (ok_head (ok_tail o))) (ok_head o), hle_refl, rfl⟩
      · cases a
    · cases a
  | dup2  =>
    dsimp only [vact1] at a
    split at a
    · split at a
      · rw [vgo_inj a]
        exact ⟨ok_push (ok_push o (ok_head (ok_tail o))) (ok_head o), hle_refl, rfl⟩
      · cases a
    · cases a
  | pop  =>
    dsimp only [vact1] at a
    split at a
    · split at a
      · rw [vgo_inj a]
        exact ⟨ok_tail o, hle_refl, rfl⟩
      · cases a
    · cases a
  | goto off =>
    obtain ⟨t, -, e⟩ := vjmp_inj a
    rw [e]
    exact ⟨o, hle_refl, rfl⟩
  | ifCond cnd off =>
    cases cnd with
    | eq =>
      dsimp only [vact1] at a
      split at a
      · obtain ⟨t, -, ⟨-, e⟩ | ⟨-, e⟩⟩ := vbr_inj a
        · rw [e]; exact ⟨ok_tail o, hle_refl, rfl⟩
        · rw [e]; exact ⟨ok_tail o, hle_refl, rfl⟩
      · cases a
    | ne =>
      dsimp only [vact1] at a
      split at a
      · obtain ⟨t, -, ⟨-, e⟩ | ⟨-, e⟩⟩ := vbr_inj a
        · rw [e]; exact ⟨ok_tail o, hle_refl, rfl⟩
        · rw [e]; exact ⟨ok_tail o, hle_refl, rfl⟩
      · cases a
    | lt =>
      dsimp only [vact1] at a
      split at a
      · obtain ⟨t, -, ⟨-, e⟩ | ⟨-, e⟩⟩ := vbr_inj a
        · rw [e]; exact ⟨ok_tail o, hle_refl, rfl⟩
        · rw [e]; exact ⟨ok_tail o, hle_refl, rfl⟩
      · cases a
    | ge =>
      dsimp only [vact1] at a
      split at a
      · obtain ⟨t, -, ⟨-, e⟩ | ⟨-, e⟩⟩ := vbr_inj a
        · rw [e]; exact ⟨ok_tail o, hle_refl, rfl⟩
        · rw [e]; exact ⟨ok_tail o, hle_refl, rfl⟩
      · cases a
    | gt =>
      dsimp only [vact1] at a
      split at a
      · obtain ⟨t, -, ⟨-, e⟩ | ⟨-, e⟩⟩ := vbr_inj a
        · rw [e]; exact ⟨ok_tail o, hle_refl, rfl⟩
        · rw [e]; exact ⟨ok_tail o, hle_refl, rfl⟩
      · cases a
    | le =>
      dsimp only [vact1] at a
      split at a
      · obtain ⟨t, -, ⟨-, e⟩ | ⟨-, e⟩⟩ := vbr_inj a
        · rw [e]; exact ⟨ok_tail o, hle_refl, rfl⟩
        · rw [e]; exact ⟨ok_tail o, hle_refl, rfl⟩
      · cases a
  | if_icmp cnd off =>
    cases cnd with
    | eq =>
      dsimp only [vact1] at a
      split at a
      · obtain ⟨t, -, ⟨-, e⟩ | ⟨-, e⟩⟩ := vbr_inj a
        · rw [e]; exact ⟨ok_tail (ok_tail o), hle_refl, rfl⟩
        · rw [e]; exact ⟨ok_tail (ok_tail o), hle_refl, rfl⟩
      · cases a
    | ne =>
      dsimp only [vact1] at a
      split at a
      · obtain ⟨t, -, ⟨-, e⟩ | ⟨-, e⟩⟩ := vbr_inj a
        · rw [e]; exact ⟨ok_tail (ok_tail o), hle_refl, rfl⟩
        · rw [e]; exact ⟨ok_tail (ok_tail o), hle_refl, rfl⟩
      · cases a
    | lt =>
      dsimp only [vact1] at a
      split at a
      · obtain ⟨t, -, ⟨-, e⟩ | ⟨-, e⟩⟩ := vbr_inj a
        · rw [e]; exact ⟨ok_tail (ok_tail o), hle_refl, rfl⟩
        · rw [e]; exact ⟨ok_tail (ok_tail o), hle_refl, rfl⟩
      · cases a
    | ge =>
      dsimp only [vact1] at a
      split at a
      · obtain ⟨t, -, ⟨-, e⟩ | ⟨-, e⟩⟩ := vbr_inj a
        · rw [e]; exact ⟨ok_tail (ok_tail o), hle_refl, rfl⟩
        · rw [e]; exact ⟨ok_tail (ok_tail o), hle_refl, rfl⟩
      · cases a
    | gt =>
      dsimp only [vact1] at a
      split at a
      · obtain ⟨t, -, ⟨-, e⟩ | ⟨-, e⟩⟩ := vbr_inj a
        · rw [e]; exact ⟨ok_tail (ok_tail o), hle_refl, rfl⟩
        · rw [e]; exact ⟨ok_tail (ok_tail o), hle_refl, rfl⟩
      · cases a
    | le =>
      dsimp only [vact1] at a
      split at a
      · obtain ⟨t, -, ⟨-, e⟩ | ⟨-, e⟩⟩ := vbr_inj a
        · rw [e]; exact ⟨ok_tail (ok_tail o), hle_refl, rfl⟩
        · rw [e]; exact ⟨ok_tail (ok_tail o), hle_refl, rfl⟩
      · cases a
  | if_acmp cnd off =>
    cases cnd with
    | eq =>
      dsimp only [vact1] at a
      split at a
      · split at a
        · obtain ⟨t, -, ⟨-, e⟩ | ⟨-, e⟩⟩ := vbr_inj a
          · rw [e]; exact ⟨ok_tail (ok_tail o), hle_refl, rfl⟩
          · rw [e]; exact ⟨ok_tail (ok_tail o), hle_refl, rfl⟩
        · cases a
      · cases a
    | ne =>
      dsimp only [vact1] at a
      split at a
      · split at a
        · obtain ⟨t, -, ⟨-, e⟩ | ⟨-, e⟩⟩ := vbr_inj a
          · rw [e]; exact ⟨ok_tail (ok_tail o), hle_refl, rfl⟩
          · rw [e]; exact ⟨ok_tail (ok_tail o), hle_refl, rfl⟩
        · cases a
      · cases a
  | tableswitch d lo hi offs =>
    dsimp only [vact1] at a
    split at a
    · split at a
      · obtain ⟨t, -, e⟩ := vjmp_inj a
        rw [e]; exact ⟨ok_tail o, hle_refl, rfl⟩
      · split at a
        · obtain ⟨t, -, e⟩ := vjmp_inj a
          rw [e]; exact ⟨ok_tail o, hle_refl, rfl⟩
        · cases a
    · cases a
  | getfield k =>
    dsimp only [vact1] at a
    split at a
    · split at a
      · rename_i z hz
        split at a
        · rename_i e
          rw [vgo_inj a]
          exact ⟨ok_push (ok_tail o) (o.1.2.2.2.1 _ _ e _ (tb_vfr hz).2), hle_refl, rfl⟩
        · cases a
      · cases a
    · cases a
  | putfield k =>
    dsimp only [vact1] at a
    split at a
    · split at a
      · rename_i z hz
        split at a
        · rename_i e
          rw [vgo_inj a]
          have hq := fun r v => vup_hle h (k := vfc z.1 z.2.1) (Or.inr (by unfold vfc; omega)) (r := r) (i := 0) (v := v)
          exact ⟨ok_heap (ok_tail (ok_tail o)) (hok_putf o.1 e.1 (tb_vfr hz).2 (by rw [← e.2.1]; exact ok_head o)) (hq _ _).1, hq _ _, rfl⟩
        · cases a
      · cases a
    · cases a
  | getstatic k =>
    dsimp only [vact1] at a
    split at a
    · rw [vgo_inj a]
      exact ⟨ok_push o ⟨by decide, Int.lt_of_lt_of_le (by decide) o.1.1⟩, hle_refl, rfl⟩
    · cases a
  | new k =>
    dsimp only [vact1] at a
    split at a
    · split at a
      · split at a
        · cases a
        · cases a
      · cases a
    · split at a
      · rename_i ci hc
        rw [vgo_inj a]
        have h3 := o.1.1
        have hci := tb_vnr hc
        refine ⟨ok_push (ok_heap o (hok_new o.1 (Or.inr ⟨by omega, by omega⟩) ⟨by decide, by decide⟩) (vnew_hle h3 (by omega)).1) ⟨by omega, ?_⟩, vnew_hle h3 (by omega), rfl⟩
        show _ < vnew _ _ _ _ 3 0 0
        rw [vnew_nx (by omega)]; omega
      · cases a
  | newarray t =>
    cases t with
    | int =>
      dsimp only [vact1] at a
      split at a
      · split at a
        · rename_i e
          rw [vgo_inj a]
          have h3 := o.1.1
          refine ⟨ok_push (ok_heap (ok_tail o) (hok_new o.1 (Or.inl ⟨by decide, by decide⟩) e) (vnew_hle h3 e.1).1) ⟨by omega, ?_⟩, vnew_hle h3 e.1, rfl⟩
          show _ < vnew _ _ _ _ 3 0 0
          rw [vnew_nx (by omega)]; omega
        · cases a
      · cases a
    | boolean =>
      dsimp only [vact1] at a
      split at a
      · split at a
        · rename_i e
          rw [vgo_inj a]
          have h3 := o.1.1
          refine ⟨ok_push (ok_heap (ok_tail o) (hok_new o.1 (Or.inl ⟨by decide, by decide⟩) e) (vnew_hle h3 e.1).1) ⟨by omega, ?_⟩, vnew_hle h3 e.1, rfl⟩
          show _ < vnew _ _ _ _ 3 0 0
          rw [vnew_nx (by omega)]; omega
        · cases a
      · cases a
    | _ => exact nomatch (show (none : vA) = some (.inr (.inl q)) from a)
  | anewarray k =>
    dsimp only [vact1] at a
    split at a
    · split at a
      · rename_i ki hk
        split at a
        · rename_i e
          rw [vgo_inj a]
          have h3 := o.1.1
          have hki := tb_vaq hk
          refine ⟨ok_push (ok_heap (ok_tail o) (hok_new o.1 (Or.inl ⟨by omega, by omega⟩) e) (vnew_hle h3 e.1).1) ⟨by omega, ?_⟩, vnew_hle h3 e.1, rfl⟩
          show _ < vnew _ _ _ _ 3 0 0
          rw [vnew_nx (by omega)]; omega
        · cases a
      · cases a
    · cases a
  | arraylength =>
    dsimp only [vact1] at a
    split at a
    · split at a
      · rename_i e
        rw [vgo_inj a]
        exact ⟨ok_push (ok_tail o) (hok_len hL0 o.1 e), hle_refl, rfl⟩
      · cases a
    · cases a
  | baload  =>
    dsimp only [vact1] at a
    split at a
    · split at a
      · rename_i e
        rw [vgo_inj a]
        refine ⟨ok_push (ok_tail (ok_tail o)) ?_, hle_refl, rfl⟩
        have e2 := vin_of e.2
        have z := (o.1.2.2.2.2.1 _ (by omega) (by omega)).2.2 _ e2.1 e2.2
        rw [e.1] at z
        exact z
      · cases a
    · cases a
  | aaload  =>
    dsimp only [vact1] at a
    split at a
    · split at a
      · rename_i e
        rw [vgo_inj a]
        refine ⟨ok_push (ok_tail (ok_tail o)) ?_, hle_refl, rfl⟩
        have e2 := vin_of e.2
        have z := (o.1.2.2.2.2.1 _ (by omega) (by omega)).2.2 _ e2.1 e2.2
        rcases e.1 with q1 | q1 | q1 <;> (rw [q1] at z; exact z)
      · cases a
    · cases a
  | iaload  =>
    dsimp only [vact1] at a
    split at a
    · split at a
      · rename_i e
        rw [vgo_inj a]
        refine ⟨ok_push (ok_tail (ok_tail o)) ?_, hle_refl, rfl⟩
        have e2 := vin_of e.2
        rcases e.1 with q1 | q1
        · have z := (o.1.2.2.2.2.1 _ (by omega) (by omega)).2.2 _ e2.1 e2.2
          rw [q1] at z
          exact z
        · obtain rfl := hok_scr o.1 q1
          show c32 _
          rw [o.1.2.2.2.2.2.2.2.2.2 _ e2.1 (by have := o.1.2.2.2.2.2.2.2.2.1; omega)]
          exact i32_c _
      · cases a
    · cases a
  | iastore  =>
    dsimp only [vact1] at a
    split at a
    · split at a
      · rename_i v i r S2 e
        rw [vgo_inj a]
        exact ⟨ok_heap (ok_tail (ok_tail (ok_tail o))) (hok_pute o.1 (by omega) (by omega) (by rw [e.1]; exact ok_head o)) (vup_hle2 h r i v).1, vup_hle2 h r i v, rfl⟩
      · cases a
    · cases a
  | bastore  =>
    dsimp only [vact1] at a
    split at a
    · split at a
      · rename_i v i r S2 e
        rw [vgo_inj a]
        exact ⟨ok_heap (ok_tail (ok_tail (ok_tail o))) (hok_pute o.1 (by omega) (by omega) (by rw [e.1]; exact ok_head o)) (vup_hle2 h r i v).1, vup_hle2 h r i v, rfl⟩
      · cases a
    · cases a
  | aastore  =>
    dsimp only [vact1] at a
    split at a
    · split at a
      · rename_i v i r S2 e
        rw [vgo_inj a]
        exact ⟨ok_heap (ok_tail (ok_tail (ok_tail o))) (hok_pute o.1 (by omega) (by omega) (by rcases e.2 with q1 | q1 | q1 <;> (rw [q1.1]; exact ok_head o))) (vup_hle2 h r i v).1, vup_hle2 h r i v, rfl⟩
      · cases a
    · cases a
  | checkcast k =>
    dsimp only [vact1] at a
    split at a
    · split at a
      · split at a
        · rw [vgo_inj a]
          exact ⟨ok_push (ok_tail o) (ok_head o), hle_refl, rfl⟩
        · cases a
      · cases a
    · cases a
  | ireturn  =>
    dsimp only [vact1] at a
    split at a
    · split at a <;> cases a
    · cases a
  | areturn  =>
    dsimp only [vact1] at a
    split at a
    · split at a <;> cases a
    · cases a
  | return_  =>
    dsimp only [vact1] at a
    split at a
    · split at a <;> cases a
    · cases a
  | invokevirtual k =>
    dsimp only [vact1] at a
    split at a
    · split at a
      · split at a
        · exact (vcall_no a).elim
        · cases a
      · cases a
    · cases a
  | invokespecial k =>
    dsimp only [vact1] at a
    split at a
    · split at a
      · rename_i b rest hd
        split at a
        · cases a
        · split at a
          · split at a
            · rw [vgo_inj a]
              refine ⟨⟨o.1, o.2.1, fun v hv => o.2.2 v (List.mem_of_mem_drop (by rw [hd]; exact List.mem_cons_of_mem _ hv))⟩, hle_refl, rfl⟩
            · cases a
          · split at a
            · exact (vcall_no a).elim
            · cases a
      · cases a
    · cases a
  | invokestatic k =>
    dsimp only [vact1] at a
    split at a
    · split at a
      · split at a
        · split at a
          · rename_i n9 dp9 b9 sp9 a9 S9 e
            rw [vgo_inj a]
            have hk := vcpok_k e.2.2.2.2.2.1
            have hq : hle h (vcp h a9 sp9 b9 dp9 n9) := ⟨Int.le_of_eq (vcp_nk (by decide)).symm, Int.le_of_eq (vcp_nk (by decide)).symm, Int.le_of_eq (vcp_nk (by decide)).symm⟩
            exact ⟨ok_heap (ok_tail (ok_tail (ok_tail (ok_tail (ok_tail o))))) (hok_cp o.1 hk.1.1 (by rw [← hk.2]; exact hk.1.2) hk.2 e.2.1 e.2.2.2.1) hq.1, hq, rfl⟩
          · cases a
        · cases a
      · split at a
        · split at a
          · split at a
            · rw [vgo_inj a]
              refine ⟨ok_push (ok_tail (ok_tail o)) ?_, hle_refl, rfl⟩
              split
              · exact ok_head o
              · exact ok_head (ok_tail o)
            · cases a
          · cases a
        · split at a
          · split at a
            · split at a
              · rw [vgo_inj a]
                refine ⟨ok_push (ok_tail (ok_tail o)) ?_, hle_refl, rfl⟩
                split
                · exact ok_head o
                · exact ok_head (ok_tail o)
              · cases a
            · cases a
          · split at a
            · exact (vcall_no a).elim
            · cases a
    · cases a
  | _ => exact nomatch (show (none : vA) = some (.inr (.inl q)) from a)
