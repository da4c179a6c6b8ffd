/-! CLASS 20, THE LAW'S OWN METHODS: what they do with the answer or the exception of a call. -/
section WRK
variable {m : vM} {pc : Nat} {L rest S : List vv} {h h2 : vH}
theorem vret_h1 {E : String} {o : Option (vR × vH)} {x : vE} {hd : Nat} {k : Fin 4} {L2 : List vv} (e : o = some (.inr E, h2)) (hh : vhand (vmH m) pc E = some x) (hx : x.2.2.1 = hd) (d : decode (vmB m) hd = .ok (.astore_n k, 1)) (hk : k.val < L.length) (hl : vset L k.val (9, 0) = L2) : vret vrun m pc L rest o = vrun m (hd + 1) L2 [] h2 := by
  subst e; subst hx; subst hl
  have n : ¬ vmH m = [] := fun n => by rw [n] at hh; cases hh
  refine (if_neg n).trans ?_
  rw [hh]
  show (match decode (vmB m) x.2.2.1 with
      | .ok (.astore_n k, 1) => if k.val < L.length then vrun m (x.2.2.1 + 1) (vset L k.val (9, 0)) [] h2 else none
      | .ok (.astore k, 2) => if k < L.length then vrun m (x.2.2.1 + 2) (vset L k (9, 0)) [] h2 else none
      | _ => none) = _
  rw [d]
  exact if_pos hk
theorem vret_h2 {E : String} {o : Option (vR × vH)} {x : vE} {hd k : Nat} {L2 : List vv} (e : o = some (.inr E, h2)) (hh : vhand (vmH m) pc E = some x) (hx : x.2.2.1 = hd) (d : decode (vmB m) hd = .ok (.astore k, 2)) (hk : k < L.length) (hl : vset L k (9, 0) = L2) : vret vrun m pc L rest o = vrun m (hd + 2) L2 [] h2 := by
  subst e; subst hx; subst hl
  have n : ¬ vmH m = [] := fun n => by rw [n] at hh; cases hh
  refine (if_neg n).trans ?_
  rw [hh]
  show (match decode (vmB m) x.2.2.1 with
      | .ok (.astore_n k, 1) => if k.val < L.length then vrun m (x.2.2.1 + 1) (vset L k.val (9, 0)) [] h2 else none
      | .ok (.astore k, 2) => if k < L.length then vrun m (x.2.2.1 + 2) (vset L k (9, 0)) [] h2 else none
      | _ => none) = _
  rw [d]
  exact if_pos hk
theorem rl_iaload {r i n v : Int} (d : decode (vmB m) pc = .ok (.iaload, 1)) (hr : h 0 r 0 = 11) (hl : h 1 r 0 = n) (h0 : 0 ≤ i) (h1 : i < n) (hv : h 2 r i = v) : vrun m pc L ((0, i) :: (1, r) :: S) h = vrun m (pc + 1) L ((0, v) :: S) h := by
  subst hv
  exact rn_iaload d ⟨Or.inr hr, vin_in hl h0 h1⟩
theorem rl_lcmp {a b : Int} (d : decode (vmB m) pc = .ok (.lcmp, 1)) (e : a = b) : vrun m pc L ((2, b) :: (2, a) :: S) h = vrun m (pc + 1) L ((0, 0) :: S) h := by
  subst e
  refine (rn_lcmp d).trans ?_
  rw [if_neg (Int.lt_irrefl _), if_pos rfl]
end WRK
/-- what the law needs to stay: the script, the kinds of its array and of the reference, and at most so many cells and slots more -/
def kS (h o : vH) : Prop := (∀ (k : Nat) (i : Int), o k 2 i = h k 2 i) ∧ o 0 338 0 = h 0 338 0 ∧ o 1 338 0 = h 1 338 0 ∧ o 0 282 0 = h 0 282 0 ∧ o 4 0 0 ≤ h 4 0 0 + 100 ∧ o 5 0 0 ≤ h 5 0 0 + 1000
def wrp (n : Int) (h : vH) (f : Int → Int) (Z : Option (vR × vH)) (Y : vH → Option (vR × vH)) : Prop := ∃ (o h2 : vH) (k r : Int), Z = some (.inl (some (0, k)), o) ∧ Y o = some (.inl (some (0, r)), h2) ∧ h2 1500 282 0 = k ∧ (k = 0 → o 2 338 0 = f r) ∧ JN (n + 1) h2 ∧ kS h o ∧ rZ o h2
def wrpV (n : Int) (h : vH) (Z : Option (vR × vH)) (Y : vH → Option (vR × vH)) : Prop := ∃ (o h2 : vH) (k : Int), Z = some (.inl (some (0, k)), o) ∧ Y o = some (.inl none, h2) ∧ h2 1500 282 0 = k ∧ JN (n + 1) h2 ∧ kS h o ∧ rZ o h2
section WRP
variable {n : Int} {h : vH} {E : Int → String} {tX : vH → vH} {kX vX : vH → Int} {f : Int → Int} {X Z : Option (vR × vH)} {Y : vH → Option (vR × vH)}
theorem kS_of {h1 : vH} (k0 : kR0 h h1) (c0 : ct h h1) : kS h h1 := ⟨fun k i => k0 k 2 i (by omega), k0 _ _ _ (by omega), k0 _ _ _ (by omega), k0 _ _ _ (by omega), c0.1, c0.2⟩
theorem w_core (st : stepN n h E tX kX vX X Y) (o1 : h 0 338 0 = 3) (o2 : h 1 338 0 = 1)
    (V : ∀ (h1 : vH) (r : Int), h1 0 338 0 = 3 → h1 1 338 0 = 1 → X = some (.inl (some (0, r)), h1) → Z = some (.inl (some (0, 0)), vup h1 2 338 0 (f r)))
    (T : ∀ (h1 a : vH), ¬ kX a = 0 → X = some (.inr (E (kX a)), h1) → Z = some (.inl (some (0, kX a)), h1)) : wrp n h f Z Y := by
  obtain ⟨h1, ⟨r0, e0⟩, k0, c0, st⟩ := st
  have ks := kS_of k0 c0
  obtain ⟨e1, h2, r, y1, y2, y3, y4, y5⟩ := st h1 (fun _ _ _ _ => rfl)
  by_cases k : kX h1 = 0
  · rw [if_pos k] at e1
    obtain ⟨e1', h2', r', y1', y2', y3', y4', y5'⟩ := st (vup h1 2 338 0 (f (vX h1))) (fun k r i ne => vup_nr ne)
    have ko : kX (vup h1 2 338 0 (f (vX h1))) = 0 := by
      by_cases q : kX (vup h1 2 338 0 (f (vX h1))) = 0
      · exact q
      · rw [if_neg q, e1] at e1'
        exact absurd (Prod.mk.inj (Option.some.inj e1')).1 (fun z => by cases z)
    rw [if_pos ko, e1] at e1'
    have vo : vX h1 = vX (vup h1 2 338 0 (f (vX h1))) := by
      have q := (Prod.mk.inj (Option.some.inj e1')).1
      exact (Prod.mk.inj (Option.some.inj (Sum.inl.inj q))).2
    refine ⟨vup h1 2 338 0 (f (vX h1)), h2', 0, r', V h1 _ (ks.2.1.trans o1) (ks.2.2.1.trans o2) e1, y1', y2'.trans ko, fun _ => vup_s.trans (by rw [y3' ko, ← vo]), y4', ⟨fun k i => (vup_nr (by decide)).trans (ks.1 k i), (vup_nk (by decide)).trans ks.2.1, (vup_nk (by decide)).trans ks.2.2.1, (vup_nk (by decide)).trans ks.2.2.2.1, ?_, ?_⟩, y5'⟩
    · rw [vup_nk (by decide)]; exact ks.2.2.2.2.1
    · rw [vup_nk (by decide)]; exact ks.2.2.2.2.2
  · rw [if_neg k] at e1
    exact ⟨h1, h2, kX h1, r, T h1 h1 k e1, y1, y2, fun z => absurd z k, y4, ks, y5⟩
theorem w_coreV (st : stepNV n h E tX kX X Y)
    (V : ∀ (h1 : vH), X = some (.inl none, h1) → Z = some (.inl (some (0, 0)), h1))
    (T : ∀ (h1 a : vH), ¬ kX a = 0 → X = some (.inr (E (kX a)), h1) → Z = some (.inl (some (0, kX a)), h1)) : wrpV n h Z Y := by
  obtain ⟨h1, ⟨r0, e0⟩, k0, c0, st⟩ := st
  have ks := kS_of k0 c0
  obtain ⟨e1, h2, y1, y2, y4, y5⟩ := st h1 (fun _ _ _ _ => rfl)
  by_cases k : kX h1 = 0
  · rw [if_pos k] at e1
    exact ⟨h1, h2, 0, V h1 e1, y1, y2.trans k, y4, ks, y5⟩
  · rw [if_neg k] at e1
    exact ⟨h1, h2, kX h1, T h1 h1 k e1, y1, y2, y4, ks, y5⟩
end WRP
theorem bL_length : vmB mL_length = cL_length := rfl
theorem Wv_length {h h1 : vH} {x1 : Int} {r : Int} (s : h 0 3 0 = 33) (a : h1 0 338 0 = 3) (b : h1 1 338 0 = 1) (e : vcl mX12_length [(1, 3), (0, x1)] h = some (.inl (some (0, r)), h1)) : vcl mL_length [(1, 3), (0, x1), (1, 338)] h = some (.inl (some (0, 0)), vup h1 2 338 0 r) := by
  refine vcl_as (L := [(1, 3), (0, x1), (1, 338), (9, 0)]) rfl ?_
  refine (rn_aload_n (pc := 0) (dd bL_length dL_length_0) rfl).trans ?_
  refine (rn_iconst (pc := 1) (dd bL_length dL_length_1) (by decide)).trans ?_
  refine (rn_aload_n (pc := 2) (dd bL_length dL_length_2) rfl).trans ?_
  refine (rn_iload_n (pc := 3) (dd bL_length dL_length_3) rfl).trans ?_
  refine (rg_virtual (pc := 4) (dd bL_length dL_length_4) rfl rfl (by decide) (kc := 33) rfl s (as := [(1, 3), (0, x1)]) rfl ⟨Nat.le_of_ble_eq_true rfl, Nat.le_of_ble_eq_true rfl, Nat.le_of_ble_eq_true rfl, Nat.le_of_ble_eq_true rfl⟩).trans ?_
  refine (vret_v e).trans ?_
  refine (rn_i2l (pc := 7) (dd bL_length dL_length_7)).trans ?_
  refine (rg_lastore (pc := 8) (dd bL_length dL_length_8) a b (by decide) (by decide)).trans ?_
  refine (rn_goto (t := 15) (pc := 9) (dd bL_length dL_length_9) rfl).trans ?_
  refine (rn_iconst (pc := 15) (dd bL_length dL_length_15) (by decide)).trans ?_
  exact rn_ireturn (pc := 16) (dd bL_length dL_length_16) (Or.inl rfl)
theorem Wx_length_1 {h h1 : vH} {x1 : Int} (s : h 0 3 0 = 33) (e : vcl mX12_length [(1, 3), (0, x1)] h = some (.inr "java/lang/IndexOutOfBoundsException", h1)) : vcl mL_length [(1, 3), (0, x1), (1, 338)] h = some (.inl (some (0, 1)), h1) := by
  refine vcl_as (L := [(1, 3), (0, x1), (1, 338), (9, 0)]) rfl ?_
  refine (rn_aload_n (pc := 0) (dd bL_length dL_length_0) rfl).trans ?_
  refine (rn_iconst (pc := 1) (dd bL_length dL_length_1) (by decide)).trans ?_
  refine (rn_aload_n (pc := 2) (dd bL_length dL_length_2) rfl).trans ?_
  refine (rn_iload_n (pc := 3) (dd bL_length dL_length_3) rfl).trans ?_
  refine (rg_virtual (pc := 4) (dd bL_length dL_length_4) rfl rfl (by decide) (kc := 33) rfl s (as := [(1, 3), (0, x1)]) rfl ⟨Nat.le_of_ble_eq_true rfl, Nat.le_of_ble_eq_true rfl, Nat.le_of_ble_eq_true rfl, Nat.le_of_ble_eq_true rfl⟩).trans ?_
  refine (vret_h1 e (x := (0, 9, 12, 13, "java/lang/IndexOutOfBoundsException")) (by decide +kernel) rfl (dd bL_length dL_length_12) (Nat.le_of_ble_eq_true rfl) rfl).trans ?_
  refine (rn_iconst (pc := 13) (dd bL_length dL_length_13) (by decide)).trans ?_
  exact rn_ireturn (pc := 14) (dd bL_length dL_length_14) (Or.inl rfl)
theorem Wr_length {n : Int} {h : vH} {x1 : Int} (J : JN n h) (o1 : h 0 338 0 = 3) (o2 : h 1 338 0 = 1) : wrp n h (fun r => r) (vcl mL_length [(1, 3), (0, x1), (1, 338)] h) (fun a => vcl mX13_length [(1, 282), (0, x1)] a) := by
  have s : h 0 3 0 = 33 := J.1.1.1
  exact w_core (N_length J) o1 o2 (fun h1 r p q e => Wv_length s p q e) (fun h1 a nz e => by
    have c : kLn a x1 = 0 ∨ kLn a x1 = 1 := by
      unfold kLn
      repeat' split
      all_goals omega
    rcases c with c | c
    · exact absurd c nz
    · have e : vcl mX12_length [(1, 3), (0, x1)] h = some (.inr (e3 (kLn a x1)), h1) := e
      show vcl mL_length [(1, 3), (0, x1), (1, 338)] h = some (.inl (some (0, kLn a x1)), h1)
      rw [c] at e ⊢
      exact Wx_length_1 s e
  )
theorem bL_sign : vmB mL_sign = cL_sign := rfl
theorem Wv_sign {h h1 : vH} {x1 : Int} {x2 : Int} {r : Int} (s : h 0 3 0 = 33) (a : h1 0 338 0 = 3) (b : h1 1 338 0 = 1) (e : vcl mX12_sign [(1, 3), (0, x1), (0, x2)] h = some (.inl (some (0, r)), h1)) : vcl mL_sign [(1, 3), (0, x1), (0, x2), (1, 338)] h = some (.inl (some (0, 0)), vup h1 2 338 0 r) := by
  refine vcl_as (L := [(1, 3), (0, x1), (0, x2), (1, 338), (9, 0)]) rfl ?_
  refine (rn_aload_n (pc := 0) (dd bL_sign dL_sign_0) rfl).trans ?_
  refine (rn_iconst (pc := 1) (dd bL_sign dL_sign_1) (by decide)).trans ?_
  refine (rn_aload_n (pc := 2) (dd bL_sign dL_sign_2) rfl).trans ?_
  refine (rn_iload_n (pc := 3) (dd bL_sign dL_sign_3) rfl).trans ?_
  refine (rn_iload_n (pc := 4) (dd bL_sign dL_sign_4) rfl).trans ?_
  refine (rg_virtual (pc := 5) (dd bL_sign dL_sign_5) rfl rfl (by decide) (kc := 33) rfl s (as := [(1, 3), (0, x1), (0, x2)]) rfl ⟨Nat.le_of_ble_eq_true rfl, Nat.le_of_ble_eq_true rfl, Nat.le_of_ble_eq_true rfl, Nat.le_of_ble_eq_true rfl⟩).trans ?_
  refine (vret_v e).trans ?_
  refine (rn_i2l (pc := 8) (dd bL_sign dL_sign_8)).trans ?_
  refine (rg_lastore (pc := 9) (dd bL_sign dL_sign_9) a b (by decide) (by decide)).trans ?_
  refine (rn_goto (t := 21) (pc := 10) (dd bL_sign dL_sign_10) rfl).trans ?_
  refine (rn_iconst (pc := 21) (dd bL_sign dL_sign_21) (by decide)).trans ?_
  exact rn_ireturn (pc := 22) (dd bL_sign dL_sign_22) (Or.inl rfl)
theorem Wx_sign_1 {h h1 : vH} {x1 : Int} {x2 : Int} (s : h 0 3 0 = 33) (e : vcl mX12_sign [(1, 3), (0, x1), (0, x2)] h = some (.inr "java/lang/IndexOutOfBoundsException", h1)) : vcl mL_sign [(1, 3), (0, x1), (0, x2), (1, 338)] h = some (.inl (some (0, 1)), h1) := by
  refine vcl_as (L := [(1, 3), (0, x1), (0, x2), (1, 338), (9, 0)]) rfl ?_
  refine (rn_aload_n (pc := 0) (dd bL_sign dL_sign_0) rfl).trans ?_
  refine (rn_iconst (pc := 1) (dd bL_sign dL_sign_1) (by decide)).trans ?_
  refine (rn_aload_n (pc := 2) (dd bL_sign dL_sign_2) rfl).trans ?_
  refine (rn_iload_n (pc := 3) (dd bL_sign dL_sign_3) rfl).trans ?_
  refine (rn_iload_n (pc := 4) (dd bL_sign dL_sign_4) rfl).trans ?_
  refine (rg_virtual (pc := 5) (dd bL_sign dL_sign_5) rfl rfl (by decide) (kc := 33) rfl s (as := [(1, 3), (0, x1), (0, x2)]) rfl ⟨Nat.le_of_ble_eq_true rfl, Nat.le_of_ble_eq_true rfl, Nat.le_of_ble_eq_true rfl, Nat.le_of_ble_eq_true rfl⟩).trans ?_
  refine (vret_h2 e (x := (0, 10, 13, 13, "java/lang/IndexOutOfBoundsException")) (by decide +kernel) rfl (dd bL_sign dL_sign_13) (Nat.le_of_ble_eq_true rfl) rfl).trans ?_
  refine (rn_iconst (pc := 15) (dd bL_sign dL_sign_15) (by decide)).trans ?_
  exact rn_ireturn (pc := 16) (dd bL_sign dL_sign_16) (Or.inl rfl)
theorem Wx_sign_2 {h h1 : vH} {x1 : Int} {x2 : Int} (s : h 0 3 0 = 33) (e : vcl mX12_sign [(1, 3), (0, x1), (0, x2)] h = some (.inr "java/lang/IllegalArgumentException", h1)) : vcl mL_sign [(1, 3), (0, x1), (0, x2), (1, 338)] h = some (.inl (some (0, 2)), h1) := by
  refine vcl_as (L := [(1, 3), (0, x1), (0, x2), (1, 338), (9, 0)]) rfl ?_
  refine (rn_aload_n (pc := 0) (dd bL_sign dL_sign_0) rfl).trans ?_
  refine (rn_iconst (pc := 1) (dd bL_sign dL_sign_1) (by decide)).trans ?_
  refine (rn_aload_n (pc := 2) (dd bL_sign dL_sign_2) rfl).trans ?_
  refine (rn_iload_n (pc := 3) (dd bL_sign dL_sign_3) rfl).trans ?_
  refine (rn_iload_n (pc := 4) (dd bL_sign dL_sign_4) rfl).trans ?_
  refine (rg_virtual (pc := 5) (dd bL_sign dL_sign_5) rfl rfl (by decide) (kc := 33) rfl s (as := [(1, 3), (0, x1), (0, x2)]) rfl ⟨Nat.le_of_ble_eq_true rfl, Nat.le_of_ble_eq_true rfl, Nat.le_of_ble_eq_true rfl, Nat.le_of_ble_eq_true rfl⟩).trans ?_
  refine (vret_h2 e (x := (0, 10, 17, 19, "java/lang/IllegalArgumentException")) (by decide +kernel) rfl (dd bL_sign dL_sign_17) (Nat.le_of_ble_eq_true rfl) rfl).trans ?_
  refine (rn_iconst (pc := 19) (dd bL_sign dL_sign_19) (by decide)).trans ?_
  exact rn_ireturn (pc := 20) (dd bL_sign dL_sign_20) (Or.inl rfl)
theorem Wr_sign {n : Int} {h : vH} {x1 : Int} {x2 : Int} (J : JN n h) (o1 : h 0 338 0 = 3) (o2 : h 1 338 0 = 1) : wrp n h (fun r => r) (vcl mL_sign [(1, 3), (0, x1), (0, x2), (1, 338)] h) (fun a => vcl mX13_sign [(1, 282), (0, x1), (0, x2)] a) := by
  have s : h 0 3 0 = 33 := J.1.1.1
  exact w_core (N_sign J) o1 o2 (fun h1 r p q e => Wv_sign s p q e) (fun h1 a nz e => by
    have c : kSg a x1 x2 = 0 ∨ kSg a x1 x2 = 1 ∨ kSg a x1 x2 = 2 := by
      unfold kSg
      repeat' split
      all_goals omega
    rcases c with c | c | c
    · exact absurd c nz
    · have e : vcl mX12_sign [(1, 3), (0, x1), (0, x2)] h = some (.inr (e3 (kSg a x1 x2)), h1) := e
      show vcl mL_sign [(1, 3), (0, x1), (0, x2), (1, 338)] h = some (.inl (some (0, kSg a x1 x2)), h1)
      rw [c] at e ⊢
      exact Wx_sign_1 s e
    · have e : vcl mX12_sign [(1, 3), (0, x1), (0, x2)] h = some (.inr (e3 (kSg a x1 x2)), h1) := e
      show vcl mL_sign [(1, 3), (0, x1), (0, x2), (1, 338)] h = some (.inl (some (0, kSg a x1 x2)), h1)
      rw [c] at e ⊢
      exact Wx_sign_2 s e
  )
theorem bL_insert : vmB mL_insert = cL_insert := rfl
theorem Wv_insert {h h1 : vH} {x1 : Int} {x2 : Int} {x3 : Int} {r : Int} (s : h 0 3 0 = 33) (a : h1 0 338 0 = 3) (b : h1 1 338 0 = 1) (e : vcl mX12_insert [(1, 3), (0, x1), (0, x2), (0, x3)] h = some (.inl (some (0, r)), h1)) : vcl mL_insert [(1, 3), (0, x1), (0, x2), (0, x3), (1, 338)] h = some (.inl (some (0, 0)), vup h1 2 338 0 r) := by
  refine vcl_as (L := [(1, 3), (0, x1), (0, x2), (0, x3), (1, 338), (9, 0)]) rfl ?_
  refine (rn_aload (pc := 0) (dd bL_insert dL_insert_0) rfl).trans ?_
  refine (rn_iconst (pc := 2) (dd bL_insert dL_insert_2) (by decide)).trans ?_
  refine (rn_aload_n (pc := 3) (dd bL_insert dL_insert_3) rfl).trans ?_
  refine (rn_iload_n (pc := 4) (dd bL_insert dL_insert_4) rfl).trans ?_
  refine (rn_iload_n (pc := 5) (dd bL_insert dL_insert_5) rfl).trans ?_
  refine (rn_iload_n (pc := 6) (dd bL_insert dL_insert_6) rfl).trans ?_
  refine (rg_virtual (pc := 7) (dd bL_insert dL_insert_7) rfl rfl (by decide) (kc := 33) rfl s (as := [(1, 3), (0, x1), (0, x2), (0, x3)]) rfl ⟨Nat.le_of_ble_eq_true rfl, Nat.le_of_ble_eq_true rfl, Nat.le_of_ble_eq_true rfl, Nat.le_of_ble_eq_true rfl⟩).trans ?_
  refine (vret_v e).trans ?_
  refine (rn_i2l (pc := 10) (dd bL_insert dL_insert_10)).trans ?_
  refine (rg_lastore (pc := 11) (dd bL_insert dL_insert_11) a b (by decide) (by decide)).trans ?_
  refine (rn_goto (t := 27) (pc := 12) (dd bL_insert dL_insert_12) rfl).trans ?_
  refine (rn_iconst (pc := 27) (dd bL_insert dL_insert_27) (by decide)).trans ?_
  exact rn_ireturn (pc := 28) (dd bL_insert dL_insert_28) (Or.inl rfl)
theorem Wx_insert_1 {h h1 : vH} {x1 : Int} {x2 : Int} {x3 : Int} (s : h 0 3 0 = 33) (e : vcl mX12_insert [(1, 3), (0, x1), (0, x2), (0, x3)] h = some (.inr "java/lang/IndexOutOfBoundsException", h1)) : vcl mL_insert [(1, 3), (0, x1), (0, x2), (0, x3), (1, 338)] h = some (.inl (some (0, 1)), h1) := by
  refine vcl_as (L := [(1, 3), (0, x1), (0, x2), (0, x3), (1, 338), (9, 0)]) rfl ?_
  refine (rn_aload (pc := 0) (dd bL_insert dL_insert_0) rfl).trans ?_
  refine (rn_iconst (pc := 2) (dd bL_insert dL_insert_2) (by decide)).trans ?_
  refine (rn_aload_n (pc := 3) (dd bL_insert dL_insert_3) rfl).trans ?_
  refine (rn_iload_n (pc := 4) (dd bL_insert dL_insert_4) rfl).trans ?_
  refine (rn_iload_n (pc := 5) (dd bL_insert dL_insert_5) rfl).trans ?_
  refine (rn_iload_n (pc := 6) (dd bL_insert dL_insert_6) rfl).trans ?_
  refine (rg_virtual (pc := 7) (dd bL_insert dL_insert_7) rfl rfl (by decide) (kc := 33) rfl s (as := [(1, 3), (0, x1), (0, x2), (0, x3)]) rfl ⟨Nat.le_of_ble_eq_true rfl, Nat.le_of_ble_eq_true rfl, Nat.le_of_ble_eq_true rfl, Nat.le_of_ble_eq_true rfl⟩).trans ?_
  refine (vret_h2 e (x := (0, 12, 15, 13, "java/lang/IndexOutOfBoundsException")) (by decide +kernel) rfl (dd bL_insert dL_insert_15) (Nat.le_of_ble_eq_true rfl) rfl).trans ?_
  refine (rn_iconst (pc := 17) (dd bL_insert dL_insert_17) (by decide)).trans ?_
  exact rn_ireturn (pc := 18) (dd bL_insert dL_insert_18) (Or.inl rfl)
theorem Wx_insert_2 {h h1 : vH} {x1 : Int} {x2 : Int} {x3 : Int} (s : h 0 3 0 = 33) (e : vcl mX12_insert [(1, 3), (0, x1), (0, x2), (0, x3)] h = some (.inr "java/lang/IllegalArgumentException", h1)) : vcl mL_insert [(1, 3), (0, x1), (0, x2), (0, x3), (1, 338)] h = some (.inl (some (0, 2)), h1) := by
  refine vcl_as (L := [(1, 3), (0, x1), (0, x2), (0, x3), (1, 338), (9, 0)]) rfl ?_
  refine (rn_aload (pc := 0) (dd bL_insert dL_insert_0) rfl).trans ?_
  refine (rn_iconst (pc := 2) (dd bL_insert dL_insert_2) (by decide)).trans ?_
  refine (rn_aload_n (pc := 3) (dd bL_insert dL_insert_3) rfl).trans ?_
  refine (rn_iload_n (pc := 4) (dd bL_insert dL_insert_4) rfl).trans ?_
  refine (rn_iload_n (pc := 5) (dd bL_insert dL_insert_5) rfl).trans ?_
  refine (rn_iload_n (pc := 6) (dd bL_insert dL_insert_6) rfl).trans ?_
  refine (rg_virtual (pc := 7) (dd bL_insert dL_insert_7) rfl rfl (by decide) (kc := 33) rfl s (as := [(1, 3), (0, x1), (0, x2), (0, x3)]) rfl ⟨Nat.le_of_ble_eq_true rfl, Nat.le_of_ble_eq_true rfl, Nat.le_of_ble_eq_true rfl, Nat.le_of_ble_eq_true rfl⟩).trans ?_
  refine (vret_h2 e (x := (0, 12, 19, 19, "java/lang/IllegalArgumentException")) (by decide +kernel) rfl (dd bL_insert dL_insert_19) (Nat.le_of_ble_eq_true rfl) rfl).trans ?_
  refine (rn_iconst (pc := 21) (dd bL_insert dL_insert_21) (by decide)).trans ?_
  exact rn_ireturn (pc := 22) (dd bL_insert dL_insert_22) (Or.inl rfl)
theorem Wx_insert_3 {h h1 : vH} {x1 : Int} {x2 : Int} {x3 : Int} (s : h 0 3 0 = 33) (e : vcl mX12_insert [(1, 3), (0, x1), (0, x2), (0, x3)] h = some (.inr "java/lang/IllegalStateException", h1)) : vcl mL_insert [(1, 3), (0, x1), (0, x2), (0, x3), (1, 338)] h = some (.inl (some (0, 3)), h1) := by
  refine vcl_as (L := [(1, 3), (0, x1), (0, x2), (0, x3), (1, 338), (9, 0)]) rfl ?_
  refine (rn_aload (pc := 0) (dd bL_insert dL_insert_0) rfl).trans ?_
  refine (rn_iconst (pc := 2) (dd bL_insert dL_insert_2) (by decide)).trans ?_
  refine (rn_aload_n (pc := 3) (dd bL_insert dL_insert_3) rfl).trans ?_
  refine (rn_iload_n (pc := 4) (dd bL_insert dL_insert_4) rfl).trans ?_
  refine (rn_iload_n (pc := 5) (dd bL_insert dL_insert_5) rfl).trans ?_
  refine (rn_iload_n (pc := 6) (dd bL_insert dL_insert_6) rfl).trans ?_
  refine (rg_virtual (pc := 7) (dd bL_insert dL_insert_7) rfl rfl (by decide) (kc := 33) rfl s (as := [(1, 3), (0, x1), (0, x2), (0, x3)]) rfl ⟨Nat.le_of_ble_eq_true rfl, Nat.le_of_ble_eq_true rfl, Nat.le_of_ble_eq_true rfl, Nat.le_of_ble_eq_true rfl⟩).trans ?_
  refine (vret_h2 e (x := (0, 12, 23, 25, "java/lang/IllegalStateException")) (by decide +kernel) rfl (dd bL_insert dL_insert_23) (Nat.le_of_ble_eq_true rfl) rfl).trans ?_
  refine (rn_iconst (pc := 25) (dd bL_insert dL_insert_25) (by decide)).trans ?_
  exact rn_ireturn (pc := 26) (dd bL_insert dL_insert_26) (Or.inl rfl)
theorem Wr_insert {n : Int} {h : vH} {x1 : Int} {x2 : Int} {x3 : Int} (J : JN n h) (hn : 0 ≤ n ∧ n ≤ 9000) (o1 : h 0 338 0 = 3) (o2 : h 1 338 0 = 1) : wrp n h (fun r => r) (vcl mL_insert [(1, 3), (0, x1), (0, x2), (0, x3), (1, 338)] h) (fun a => vcl mX13_insert [(1, 282), (0, x1), (0, x2), (0, x3)] a) := by
  have s : h 0 3 0 = 33 := J.1.1.1
  exact w_core (N_insert J hn) o1 o2 (fun h1 r p q e => Wv_insert s p q e) (fun h1 a nz e => by
    have c : kIn a x1 x2 x3 = 0 ∨ kIn a x1 x2 x3 = 1 ∨ kIn a x1 x2 x3 = 2 ∨ kIn a x1 x2 x3 = 3 := by
      unfold kIn
      repeat' split
      all_goals omega
    rcases c with c | c | c | c
    · exact absurd c nz
    · have e : vcl mX12_insert [(1, 3), (0, x1), (0, x2), (0, x3)] h = some (.inr (e3 (kIn a x1 x2 x3)), h1) := e
      show vcl mL_insert [(1, 3), (0, x1), (0, x2), (0, x3), (1, 338)] h = some (.inl (some (0, kIn a x1 x2 x3)), h1)
      rw [c] at e ⊢
      exact Wx_insert_1 s e
    · have e : vcl mX12_insert [(1, 3), (0, x1), (0, x2), (0, x3)] h = some (.inr (e3 (kIn a x1 x2 x3)), h1) := e
      show vcl mL_insert [(1, 3), (0, x1), (0, x2), (0, x3), (1, 338)] h = some (.inl (some (0, kIn a x1 x2 x3)), h1)
      rw [c] at e ⊢
      exact Wx_insert_2 s e
    · have e : vcl mX12_insert [(1, 3), (0, x1), (0, x2), (0, x3)] h = some (.inr (e3 (kIn a x1 x2 x3)), h1) := e
      show vcl mL_insert [(1, 3), (0, x1), (0, x2), (0, x3), (1, 338)] h = some (.inl (some (0, kIn a x1 x2 x3)), h1)
      rw [c] at e ⊢
      exact Wx_insert_3 s e
  )
theorem bL_remove : vmB mL_remove = cL_remove := rfl
theorem Wv_remove {h h1 : vH} {x1 : Int} {x2 : Int} {x3 : Int} {r : Int} (s : h 0 3 0 = 33) (a : h1 0 338 0 = 3) (b : h1 1 338 0 = 1) (e : vcl mX12_remove [(1, 3), (0, x1), (0, x2), (0, x3)] h = some (.inl (some (0, r)), h1)) : vcl mL_remove [(1, 3), (0, x1), (0, x2), (0, x3), (1, 338)] h = some (.inl (some (0, 0)), vup h1 2 338 0 r) := by
  refine vcl_as (L := [(1, 3), (0, x1), (0, x2), (0, x3), (1, 338), (9, 0)]) rfl ?_
  refine (rn_aload (pc := 0) (dd bL_remove dL_remove_0) rfl).trans ?_
  refine (rn_iconst (pc := 2) (dd bL_remove dL_remove_2) (by decide)).trans ?_
  refine (rn_aload_n (pc := 3) (dd bL_remove dL_remove_3) rfl).trans ?_
  refine (rn_iload_n (pc := 4) (dd bL_remove dL_remove_4) rfl).trans ?_
  refine (rn_iload_n (pc := 5) (dd bL_remove dL_remove_5) rfl).trans ?_
  refine (rn_iload_n (pc := 6) (dd bL_remove dL_remove_6) rfl).trans ?_
  refine (rg_virtual (pc := 7) (dd bL_remove dL_remove_7) rfl rfl (by decide) (kc := 33) rfl s (as := [(1, 3), (0, x1), (0, x2), (0, x3)]) rfl ⟨Nat.le_of_ble_eq_true rfl, Nat.le_of_ble_eq_true rfl, Nat.le_of_ble_eq_true rfl, Nat.le_of_ble_eq_true rfl⟩).trans ?_
  refine (vret_v e).trans ?_
  refine (rn_i2l (pc := 10) (dd bL_remove dL_remove_10)).trans ?_
  refine (rg_lastore (pc := 11) (dd bL_remove dL_remove_11) a b (by decide) (by decide)).trans ?_
  refine (rn_goto (t := 23) (pc := 12) (dd bL_remove dL_remove_12) rfl).trans ?_
  refine (rn_iconst (pc := 23) (dd bL_remove dL_remove_23) (by decide)).trans ?_
  exact rn_ireturn (pc := 24) (dd bL_remove dL_remove_24) (Or.inl rfl)
theorem Wx_remove_1 {h h1 : vH} {x1 : Int} {x2 : Int} {x3 : Int} (s : h 0 3 0 = 33) (e : vcl mX12_remove [(1, 3), (0, x1), (0, x2), (0, x3)] h = some (.inr "java/lang/IndexOutOfBoundsException", h1)) : vcl mL_remove [(1, 3), (0, x1), (0, x2), (0, x3), (1, 338)] h = some (.inl (some (0, 1)), h1) := by
  refine vcl_as (L := [(1, 3), (0, x1), (0, x2), (0, x3), (1, 338), (9, 0)]) rfl ?_
  refine (rn_aload (pc := 0) (dd bL_remove dL_remove_0) rfl).trans ?_
  refine (rn_iconst (pc := 2) (dd bL_remove dL_remove_2) (by decide)).trans ?_
  refine (rn_aload_n (pc := 3) (dd bL_remove dL_remove_3) rfl).trans ?_
  refine (rn_iload_n (pc := 4) (dd bL_remove dL_remove_4) rfl).trans ?_
  refine (rn_iload_n (pc := 5) (dd bL_remove dL_remove_5) rfl).trans ?_
  refine (rn_iload_n (pc := 6) (dd bL_remove dL_remove_6) rfl).trans ?_
  refine (rg_virtual (pc := 7) (dd bL_remove dL_remove_7) rfl rfl (by decide) (kc := 33) rfl s (as := [(1, 3), (0, x1), (0, x2), (0, x3)]) rfl ⟨Nat.le_of_ble_eq_true rfl, Nat.le_of_ble_eq_true rfl, Nat.le_of_ble_eq_true rfl, Nat.le_of_ble_eq_true rfl⟩).trans ?_
  refine (vret_h2 e (x := (0, 12, 15, 13, "java/lang/IndexOutOfBoundsException")) (by decide +kernel) rfl (dd bL_remove dL_remove_15) (Nat.le_of_ble_eq_true rfl) rfl).trans ?_
  refine (rn_iconst (pc := 17) (dd bL_remove dL_remove_17) (by decide)).trans ?_
  exact rn_ireturn (pc := 18) (dd bL_remove dL_remove_18) (Or.inl rfl)
theorem Wx_remove_2 {h h1 : vH} {x1 : Int} {x2 : Int} {x3 : Int} (s : h 0 3 0 = 33) (e : vcl mX12_remove [(1, 3), (0, x1), (0, x2), (0, x3)] h = some (.inr "java/lang/IllegalArgumentException", h1)) : vcl mL_remove [(1, 3), (0, x1), (0, x2), (0, x3), (1, 338)] h = some (.inl (some (0, 2)), h1) := by
  refine vcl_as (L := [(1, 3), (0, x1), (0, x2), (0, x3), (1, 338), (9, 0)]) rfl ?_
  refine (rn_aload (pc := 0) (dd bL_remove dL_remove_0) rfl).trans ?_
  refine (rn_iconst (pc := 2) (dd bL_remove dL_remove_2) (by decide)).trans ?_
  refine (rn_aload_n (pc := 3) (dd bL_remove dL_remove_3) rfl).trans ?_
  refine (rn_iload_n (pc := 4) (dd bL_remove dL_remove_4) rfl).trans ?_
  refine (rn_iload_n (pc := 5) (dd bL_remove dL_remove_5) rfl).trans ?_
  refine (rn_iload_n (pc := 6) (dd bL_remove dL_remove_6) rfl).trans ?_
  refine (rg_virtual (pc := 7) (dd bL_remove dL_remove_7) rfl rfl (by decide) (kc := 33) rfl s (as := [(1, 3), (0, x1), (0, x2), (0, x3)]) rfl ⟨Nat.le_of_ble_eq_true rfl, Nat.le_of_ble_eq_true rfl, Nat.le_of_ble_eq_true rfl, Nat.le_of_ble_eq_true rfl⟩).trans ?_
  refine (vret_h2 e (x := (0, 12, 19, 19, "java/lang/IllegalArgumentException")) (by decide +kernel) rfl (dd bL_remove dL_remove_19) (Nat.le_of_ble_eq_true rfl) rfl).trans ?_
  refine (rn_iconst (pc := 21) (dd bL_remove dL_remove_21) (by decide)).trans ?_
  exact rn_ireturn (pc := 22) (dd bL_remove dL_remove_22) (Or.inl rfl)
theorem Wr_remove {n : Int} {h : vH} {x1 : Int} {x2 : Int} {x3 : Int} (J : JN n h) (hn : 0 ≤ n ∧ n ≤ 9000) (o1 : h 0 338 0 = 3) (o2 : h 1 338 0 = 1) : wrp n h (fun r => r) (vcl mL_remove [(1, 3), (0, x1), (0, x2), (0, x3), (1, 338)] h) (fun a => vcl mX13_remove [(1, 282), (0, x1), (0, x2), (0, x3)] a) := by
  have s : h 0 3 0 = 33 := J.1.1.1
  exact w_core (N_remove J hn) o1 o2 (fun h1 r p q e => Wv_remove s p q e) (fun h1 a nz e => by
    have c : kRm a x1 x2 x3 = 0 ∨ kRm a x1 x2 x3 = 1 ∨ kRm a x1 x2 x3 = 2 := by
      unfold kRm
      repeat' split
      all_goals omega
    rcases c with c | c | c
    · exact absurd c nz
    · have e : vcl mX12_remove [(1, 3), (0, x1), (0, x2), (0, x3)] h = some (.inr (e3 (kRm a x1 x2 x3)), h1) := e
      show vcl mL_remove [(1, 3), (0, x1), (0, x2), (0, x3), (1, 338)] h = some (.inl (some (0, kRm a x1 x2 x3)), h1)
      rw [c] at e ⊢
      exact Wx_remove_1 s e
    · have e : vcl mX12_remove [(1, 3), (0, x1), (0, x2), (0, x3)] h = some (.inr (e3 (kRm a x1 x2 x3)), h1) := e
      show vcl mL_remove [(1, 3), (0, x1), (0, x2), (0, x3), (1, 338)] h = some (.inl (some (0, kRm a x1 x2 x3)), h1)
      rw [c] at e ⊢
      exact Wx_remove_2 s e
  )
theorem bL_breakLine : vmB mL_breakLine = cL_breakLine := rfl
theorem Wv_breakLine {h h1 : vH} {x1 : Int} {x2 : Int} {r : Int} (s : h 0 3 0 = 33) (a : h1 0 338 0 = 3) (b : h1 1 338 0 = 1) (e : vcl mX12_breakLine [(1, 3), (0, x1), (0, x2)] h = some (.inl (some (0, r)), h1)) : vcl mL_breakLine [(1, 3), (0, x1), (0, x2), (1, 338)] h = some (.inl (some (0, 0)), vup h1 2 338 0 r) := by
  refine vcl_as (L := [(1, 3), (0, x1), (0, x2), (1, 338), (9, 0)]) rfl ?_
  refine (rn_aload_n (pc := 0) (dd bL_breakLine dL_breakLine_0) rfl).trans ?_
  refine (rn_iconst (pc := 1) (dd bL_breakLine dL_breakLine_1) (by decide)).trans ?_
  refine (rn_aload_n (pc := 2) (dd bL_breakLine dL_breakLine_2) rfl).trans ?_
  refine (rn_iload_n (pc := 3) (dd bL_breakLine dL_breakLine_3) rfl).trans ?_
  refine (rn_iload_n (pc := 4) (dd bL_breakLine dL_breakLine_4) rfl).trans ?_
  refine (rg_virtual (pc := 5) (dd bL_breakLine dL_breakLine_5) rfl rfl (by decide) (kc := 33) rfl s (as := [(1, 3), (0, x1), (0, x2)]) rfl ⟨Nat.le_of_ble_eq_true rfl, Nat.le_of_ble_eq_true rfl, Nat.le_of_ble_eq_true rfl, Nat.le_of_ble_eq_true rfl⟩).trans ?_
  refine (vret_v e).trans ?_
  refine (rn_i2l (pc := 8) (dd bL_breakLine dL_breakLine_8)).trans ?_
  refine (rg_lastore (pc := 9) (dd bL_breakLine dL_breakLine_9) a b (by decide) (by decide)).trans ?_
  refine (rn_goto (t := 25) (pc := 10) (dd bL_breakLine dL_breakLine_10) rfl).trans ?_
  refine (rn_iconst (pc := 25) (dd bL_breakLine dL_breakLine_25) (by decide)).trans ?_
  exact rn_ireturn (pc := 26) (dd bL_breakLine dL_breakLine_26) (Or.inl rfl)
theorem Wx_breakLine_1 {h h1 : vH} {x1 : Int} {x2 : Int} (s : h 0 3 0 = 33) (e : vcl mX12_breakLine [(1, 3), (0, x1), (0, x2)] h = some (.inr "java/lang/IndexOutOfBoundsException", h1)) : vcl mL_breakLine [(1, 3), (0, x1), (0, x2), (1, 338)] h = some (.inl (some (0, 1)), h1) := by
  refine vcl_as (L := [(1, 3), (0, x1), (0, x2), (1, 338), (9, 0)]) rfl ?_
  refine (rn_aload_n (pc := 0) (dd bL_breakLine dL_breakLine_0) rfl).trans ?_
  refine (rn_iconst (pc := 1) (dd bL_breakLine dL_breakLine_1) (by decide)).trans ?_
  refine (rn_aload_n (pc := 2) (dd bL_breakLine dL_breakLine_2) rfl).trans ?_
  refine (rn_iload_n (pc := 3) (dd bL_breakLine dL_breakLine_3) rfl).trans ?_
  refine (rn_iload_n (pc := 4) (dd bL_breakLine dL_breakLine_4) rfl).trans ?_
  refine (rg_virtual (pc := 5) (dd bL_breakLine dL_breakLine_5) rfl rfl (by decide) (kc := 33) rfl s (as := [(1, 3), (0, x1), (0, x2)]) rfl ⟨Nat.le_of_ble_eq_true rfl, Nat.le_of_ble_eq_true rfl, Nat.le_of_ble_eq_true rfl, Nat.le_of_ble_eq_true rfl⟩).trans ?_
  refine (vret_h2 e (x := (0, 10, 13, 13, "java/lang/IndexOutOfBoundsException")) (by decide +kernel) rfl (dd bL_breakLine dL_breakLine_13) (Nat.le_of_ble_eq_true rfl) rfl).trans ?_
  refine (rn_iconst (pc := 15) (dd bL_breakLine dL_breakLine_15) (by decide)).trans ?_
  exact rn_ireturn (pc := 16) (dd bL_breakLine dL_breakLine_16) (Or.inl rfl)
theorem Wx_breakLine_2 {h h1 : vH} {x1 : Int} {x2 : Int} (s : h 0 3 0 = 33) (e : vcl mX12_breakLine [(1, 3), (0, x1), (0, x2)] h = some (.inr "java/lang/IllegalArgumentException", h1)) : vcl mL_breakLine [(1, 3), (0, x1), (0, x2), (1, 338)] h = some (.inl (some (0, 2)), h1) := by
  refine vcl_as (L := [(1, 3), (0, x1), (0, x2), (1, 338), (9, 0)]) rfl ?_
  refine (rn_aload_n (pc := 0) (dd bL_breakLine dL_breakLine_0) rfl).trans ?_
  refine (rn_iconst (pc := 1) (dd bL_breakLine dL_breakLine_1) (by decide)).trans ?_
  refine (rn_aload_n (pc := 2) (dd bL_breakLine dL_breakLine_2) rfl).trans ?_
  refine (rn_iload_n (pc := 3) (dd bL_breakLine dL_breakLine_3) rfl).trans ?_
  refine (rn_iload_n (pc := 4) (dd bL_breakLine dL_breakLine_4) rfl).trans ?_
  refine (rg_virtual (pc := 5) (dd bL_breakLine dL_breakLine_5) rfl rfl (by decide) (kc := 33) rfl s (as := [(1, 3), (0, x1), (0, x2)]) rfl ⟨Nat.le_of_ble_eq_true rfl, Nat.le_of_ble_eq_true rfl, Nat.le_of_ble_eq_true rfl, Nat.le_of_ble_eq_true rfl⟩).trans ?_
  refine (vret_h2 e (x := (0, 10, 17, 19, "java/lang/IllegalArgumentException")) (by decide +kernel) rfl (dd bL_breakLine dL_breakLine_17) (Nat.le_of_ble_eq_true rfl) rfl).trans ?_
  refine (rn_iconst (pc := 19) (dd bL_breakLine dL_breakLine_19) (by decide)).trans ?_
  exact rn_ireturn (pc := 20) (dd bL_breakLine dL_breakLine_20) (Or.inl rfl)
theorem Wx_breakLine_3 {h h1 : vH} {x1 : Int} {x2 : Int} (s : h 0 3 0 = 33) (e : vcl mX12_breakLine [(1, 3), (0, x1), (0, x2)] h = some (.inr "java/lang/IllegalStateException", h1)) : vcl mL_breakLine [(1, 3), (0, x1), (0, x2), (1, 338)] h = some (.inl (some (0, 3)), h1) := by
  refine vcl_as (L := [(1, 3), (0, x1), (0, x2), (1, 338), (9, 0)]) rfl ?_
  refine (rn_aload_n (pc := 0) (dd bL_breakLine dL_breakLine_0) rfl).trans ?_
  refine (rn_iconst (pc := 1) (dd bL_breakLine dL_breakLine_1) (by decide)).trans ?_
  refine (rn_aload_n (pc := 2) (dd bL_breakLine dL_breakLine_2) rfl).trans ?_
  refine (rn_iload_n (pc := 3) (dd bL_breakLine dL_breakLine_3) rfl).trans ?_
  refine (rn_iload_n (pc := 4) (dd bL_breakLine dL_breakLine_4) rfl).trans ?_
  refine (rg_virtual (pc := 5) (dd bL_breakLine dL_breakLine_5) rfl rfl (by decide) (kc := 33) rfl s (as := [(1, 3), (0, x1), (0, x2)]) rfl ⟨Nat.le_of_ble_eq_true rfl, Nat.le_of_ble_eq_true rfl, Nat.le_of_ble_eq_true rfl, Nat.le_of_ble_eq_true rfl⟩).trans ?_
  refine (vret_h2 e (x := (0, 10, 21, 25, "java/lang/IllegalStateException")) (by decide +kernel) rfl (dd bL_breakLine dL_breakLine_21) (Nat.le_of_ble_eq_true rfl) rfl).trans ?_
  refine (rn_iconst (pc := 23) (dd bL_breakLine dL_breakLine_23) (by decide)).trans ?_
  exact rn_ireturn (pc := 24) (dd bL_breakLine dL_breakLine_24) (Or.inl rfl)
theorem Wr_breakLine {n : Int} {h : vH} {x1 : Int} {x2 : Int} (J : JN n h) (hn : 0 ≤ n ∧ n ≤ 9000) (o1 : h 0 338 0 = 3) (o2 : h 1 338 0 = 1) : wrp n h (fun r => r) (vcl mL_breakLine [(1, 3), (0, x1), (0, x2), (1, 338)] h) (fun a => vcl mX13_breakLine [(1, 282), (0, x1), (0, x2)] a) := by
  have s : h 0 3 0 = 33 := J.1.1.1
  exact w_core (N_breakLine J hn) o1 o2 (fun h1 r p q e => Wv_breakLine s p q e) (fun h1 a nz e => by
    have c : kBl a x1 x2 = 0 ∨ kBl a x1 x2 = 1 ∨ kBl a x1 x2 = 2 ∨ kBl a x1 x2 = 3 := by
      unfold kBl
      repeat' split
      all_goals omega
    rcases c with c | c | c | c
    · exact absurd c nz
    · have e : vcl mX12_breakLine [(1, 3), (0, x1), (0, x2)] h = some (.inr (e3 (kBl a x1 x2)), h1) := e
      show vcl mL_breakLine [(1, 3), (0, x1), (0, x2), (1, 338)] h = some (.inl (some (0, kBl a x1 x2)), h1)
      rw [c] at e ⊢
      exact Wx_breakLine_1 s e
    · have e : vcl mX12_breakLine [(1, 3), (0, x1), (0, x2)] h = some (.inr (e3 (kBl a x1 x2)), h1) := e
      show vcl mL_breakLine [(1, 3), (0, x1), (0, x2), (1, 338)] h = some (.inl (some (0, kBl a x1 x2)), h1)
      rw [c] at e ⊢
      exact Wx_breakLine_2 s e
    · have e : vcl mX12_breakLine [(1, 3), (0, x1), (0, x2)] h = some (.inr (e3 (kBl a x1 x2)), h1) := e
      show vcl mL_breakLine [(1, 3), (0, x1), (0, x2), (1, 338)] h = some (.inl (some (0, kBl a x1 x2)), h1)
      rw [c] at e ⊢
      exact Wx_breakLine_3 s e
  )
theorem bL_join : vmB mL_join = cL_join := rfl
theorem Wv_join {h h1 : vH} {x1 : Int} {r : Int} (s : h 0 3 0 = 33) (a : h1 0 338 0 = 3) (b : h1 1 338 0 = 1) (e : vcl mX12_join [(1, 3), (0, x1)] h = some (.inl (some (0, r)), h1)) : vcl mL_join [(1, 3), (0, x1), (1, 338)] h = some (.inl (some (0, 0)), vup h1 2 338 0 r) := by
  refine vcl_as (L := [(1, 3), (0, x1), (1, 338), (9, 0)]) rfl ?_
  refine (rn_aload_n (pc := 0) (dd bL_join dL_join_0) rfl).trans ?_
  refine (rn_iconst (pc := 1) (dd bL_join dL_join_1) (by decide)).trans ?_
  refine (rn_aload_n (pc := 2) (dd bL_join dL_join_2) rfl).trans ?_
  refine (rn_iload_n (pc := 3) (dd bL_join dL_join_3) rfl).trans ?_
  refine (rg_virtual (pc := 4) (dd bL_join dL_join_4) rfl rfl (by decide) (kc := 33) rfl s (as := [(1, 3), (0, x1)]) rfl ⟨Nat.le_of_ble_eq_true rfl, Nat.le_of_ble_eq_true rfl, Nat.le_of_ble_eq_true rfl, Nat.le_of_ble_eq_true rfl⟩).trans ?_
  refine (vret_v e).trans ?_
  refine (rn_i2l (pc := 7) (dd bL_join dL_join_7)).trans ?_
  refine (rg_lastore (pc := 8) (dd bL_join dL_join_8) a b (by decide) (by decide)).trans ?_
  refine (rn_goto (t := 18) (pc := 9) (dd bL_join dL_join_9) rfl).trans ?_
  refine (rn_iconst (pc := 18) (dd bL_join dL_join_18) (by decide)).trans ?_
  exact rn_ireturn (pc := 19) (dd bL_join dL_join_19) (Or.inl rfl)
theorem Wx_join_1 {h h1 : vH} {x1 : Int} (s : h 0 3 0 = 33) (e : vcl mX12_join [(1, 3), (0, x1)] h = some (.inr "java/lang/IndexOutOfBoundsException", h1)) : vcl mL_join [(1, 3), (0, x1), (1, 338)] h = some (.inl (some (0, 1)), h1) := by
  refine vcl_as (L := [(1, 3), (0, x1), (1, 338), (9, 0)]) rfl ?_
  refine (rn_aload_n (pc := 0) (dd bL_join dL_join_0) rfl).trans ?_
  refine (rn_iconst (pc := 1) (dd bL_join dL_join_1) (by decide)).trans ?_
  refine (rn_aload_n (pc := 2) (dd bL_join dL_join_2) rfl).trans ?_
  refine (rn_iload_n (pc := 3) (dd bL_join dL_join_3) rfl).trans ?_
  refine (rg_virtual (pc := 4) (dd bL_join dL_join_4) rfl rfl (by decide) (kc := 33) rfl s (as := [(1, 3), (0, x1)]) rfl ⟨Nat.le_of_ble_eq_true rfl, Nat.le_of_ble_eq_true rfl, Nat.le_of_ble_eq_true rfl, Nat.le_of_ble_eq_true rfl⟩).trans ?_
  refine (vret_h1 e (x := (0, 9, 12, 13, "java/lang/IndexOutOfBoundsException")) (by decide +kernel) rfl (dd bL_join dL_join_12) (Nat.le_of_ble_eq_true rfl) rfl).trans ?_
  refine (rn_iconst (pc := 13) (dd bL_join dL_join_13) (by decide)).trans ?_
  exact rn_ireturn (pc := 14) (dd bL_join dL_join_14) (Or.inl rfl)
theorem Wx_join_2 {h h1 : vH} {x1 : Int} (s : h 0 3 0 = 33) (e : vcl mX12_join [(1, 3), (0, x1)] h = some (.inr "java/lang/IllegalStateException", h1)) : vcl mL_join [(1, 3), (0, x1), (1, 338)] h = some (.inl (some (0, 2)), h1) := by
  refine vcl_as (L := [(1, 3), (0, x1), (1, 338), (9, 0)]) rfl ?_
  refine (rn_aload_n (pc := 0) (dd bL_join dL_join_0) rfl).trans ?_
  refine (rn_iconst (pc := 1) (dd bL_join dL_join_1) (by decide)).trans ?_
  refine (rn_aload_n (pc := 2) (dd bL_join dL_join_2) rfl).trans ?_
  refine (rn_iload_n (pc := 3) (dd bL_join dL_join_3) rfl).trans ?_
  refine (rg_virtual (pc := 4) (dd bL_join dL_join_4) rfl rfl (by decide) (kc := 33) rfl s (as := [(1, 3), (0, x1)]) rfl ⟨Nat.le_of_ble_eq_true rfl, Nat.le_of_ble_eq_true rfl, Nat.le_of_ble_eq_true rfl, Nat.le_of_ble_eq_true rfl⟩).trans ?_
  refine (vret_h1 e (x := (0, 9, 15, 25, "java/lang/IllegalStateException")) (by decide +kernel) rfl (dd bL_join dL_join_15) (Nat.le_of_ble_eq_true rfl) rfl).trans ?_
  refine (rn_iconst (pc := 16) (dd bL_join dL_join_16) (by decide)).trans ?_
  exact rn_ireturn (pc := 17) (dd bL_join dL_join_17) (Or.inl rfl)
theorem Wr_join {n : Int} {h : vH} {x1 : Int} (J : JN n h) (hn : 0 ≤ n ∧ n ≤ 9000) (o1 : h 0 338 0 = 3) (o2 : h 1 338 0 = 1) : wrp n h (fun r => r) (vcl mL_join [(1, 3), (0, x1), (1, 338)] h) (fun a => vcl mX13_join [(1, 282), (0, x1)] a) := by
  have s : h 0 3 0 = 33 := J.1.1.1
  exact w_core (N_join J hn) o1 o2 (fun h1 r p q e => Wv_join s p q e) (fun h1 a nz e => by
    have c : kJn a x1 = 0 ∨ kJn a x1 = 1 ∨ kJn a x1 = 2 := by
      unfold kJn
      repeat' split
      all_goals omega
    rcases c with c | c | c
    · exact absurd c nz
    · have e : vcl mX12_join [(1, 3), (0, x1)] h = some (.inr (e2 (kJn a x1)), h1) := e
      show vcl mL_join [(1, 3), (0, x1), (1, 338)] h = some (.inl (some (0, kJn a x1)), h1)
      rw [c] at e ⊢
      exact Wx_join_1 s e
    · have e : vcl mX12_join [(1, 3), (0, x1)] h = some (.inr (e2 (kJn a x1)), h1) := e
      show vcl mL_join [(1, 3), (0, x1), (1, 338)] h = some (.inl (some (0, kJn a x1)), h1)
      rw [c] at e ⊢
      exact Wx_join_2 s e
  )
theorem bL_setMark : vmB mL_setMark = cL_setMark := rfl
theorem Wv_setMark {h h1 : vH} {x1 : Int} {x2 : Int} {r : Int} (s : h 0 3 0 = 33) (a : h1 0 338 0 = 3) (b : h1 1 338 0 = 1) (e : vcl mX12_setMark [(1, 3), (0, x1), (0, x2)] h = some (.inl (some (0, r)), h1)) : vcl mL_setMark [(1, 3), (0, x1), (0, x2), (1, 338)] h = some (.inl (some (0, 0)), vup h1 2 338 0 (if r = 0 then 0 else 1)) := by
  refine vcl_as (L := [(1, 3), (0, x1), (0, x2), (1, 338), (9, 0)]) rfl ?_
  refine (rn_aload_n (pc := 0) (dd bL_setMark dL_setMark_0) rfl).trans ?_
  refine (rn_iconst (pc := 1) (dd bL_setMark dL_setMark_1) (by decide)).trans ?_
  refine (rn_aload_n (pc := 2) (dd bL_setMark dL_setMark_2) rfl).trans ?_
  refine (rn_iload_n (pc := 3) (dd bL_setMark dL_setMark_3) rfl).trans ?_
  refine (rn_iload_n (pc := 4) (dd bL_setMark dL_setMark_4) rfl).trans ?_
  refine (rg_virtual (pc := 5) (dd bL_setMark dL_setMark_5) rfl rfl (by decide) (kc := 33) rfl s (as := [(1, 3), (0, x1), (0, x2)]) rfl ⟨Nat.le_of_ble_eq_true rfl, Nat.le_of_ble_eq_true rfl, Nat.le_of_ble_eq_true rfl, Nat.le_of_ble_eq_true rfl⟩).trans ?_
  refine (vret_v e).trans ?_
  refine (rn_if_eq (t := 15) (pc := 8) (dd bL_setMark dL_setMark_8) rfl).trans ?_
  by_cases c : r = 0
  · rw [if_pos c, if_pos c]
    refine (rn_lconst (pc := 15) (dd bL_setMark dL_setMark_15)).trans ?_
    refine (rg_lastore (pc := 16) (dd bL_setMark dL_setMark_16) a b (by decide) (by decide)).trans ?_
    refine (rn_goto (t := 24) (pc := 17) (dd bL_setMark dL_setMark_17) rfl).trans ?_
    refine (rn_iconst (pc := 24) (dd bL_setMark dL_setMark_24) (by decide)).trans ?_
    exact rn_ireturn (pc := 25) (dd bL_setMark dL_setMark_25) (Or.inl rfl)
  · rw [if_neg c, if_neg c]
    refine (rn_lconst (pc := 11) (dd bL_setMark dL_setMark_11)).trans ?_
    refine (rn_goto (t := 16) (pc := 12) (dd bL_setMark dL_setMark_12) rfl).trans ?_
    refine (rg_lastore (pc := 16) (dd bL_setMark dL_setMark_16) a b (by decide) (by decide)).trans ?_
    refine (rn_goto (t := 24) (pc := 17) (dd bL_setMark dL_setMark_17) rfl).trans ?_
    refine (rn_iconst (pc := 24) (dd bL_setMark dL_setMark_24) (by decide)).trans ?_
    exact rn_ireturn (pc := 25) (dd bL_setMark dL_setMark_25) (Or.inl rfl)
theorem Wx_setMark_1 {h h1 : vH} {x1 : Int} {x2 : Int} (s : h 0 3 0 = 33) (e : vcl mX12_setMark [(1, 3), (0, x1), (0, x2)] h = some (.inr "java/lang/IndexOutOfBoundsException", h1)) : vcl mL_setMark [(1, 3), (0, x1), (0, x2), (1, 338)] h = some (.inl (some (0, 1)), h1) := by
  refine vcl_as (L := [(1, 3), (0, x1), (0, x2), (1, 338), (9, 0)]) rfl ?_
  refine (rn_aload_n (pc := 0) (dd bL_setMark dL_setMark_0) rfl).trans ?_
  refine (rn_iconst (pc := 1) (dd bL_setMark dL_setMark_1) (by decide)).trans ?_
  refine (rn_aload_n (pc := 2) (dd bL_setMark dL_setMark_2) rfl).trans ?_
  refine (rn_iload_n (pc := 3) (dd bL_setMark dL_setMark_3) rfl).trans ?_
  refine (rn_iload_n (pc := 4) (dd bL_setMark dL_setMark_4) rfl).trans ?_
  refine (rg_virtual (pc := 5) (dd bL_setMark dL_setMark_5) rfl rfl (by decide) (kc := 33) rfl s (as := [(1, 3), (0, x1), (0, x2)]) rfl ⟨Nat.le_of_ble_eq_true rfl, Nat.le_of_ble_eq_true rfl, Nat.le_of_ble_eq_true rfl, Nat.le_of_ble_eq_true rfl⟩).trans ?_
  refine (vret_h2 e (x := (0, 17, 20, 13, "java/lang/IndexOutOfBoundsException")) (by decide +kernel) rfl (dd bL_setMark dL_setMark_20) (Nat.le_of_ble_eq_true rfl) rfl).trans ?_
  refine (rn_iconst (pc := 22) (dd bL_setMark dL_setMark_22) (by decide)).trans ?_
  exact rn_ireturn (pc := 23) (dd bL_setMark dL_setMark_23) (Or.inl rfl)
theorem Wr_setMark {n : Int} {h : vH} {x1 : Int} {x2 : Int} (J : JN n h) (hv : x2 = 0 ∨ x2 = 1) (o1 : h 0 338 0 = 3) (o2 : h 1 338 0 = 1) : wrp n h (fun r => if r = 0 then 0 else 1) (vcl mL_setMark [(1, 3), (0, x1), (0, x2), (1, 338)] h) (fun a => vcl mX13_setMark [(1, 282), (0, x1), (0, x2)] a) := by
  have s : h 0 3 0 = 33 := J.1.1.1
  exact w_core (N_setMark J hv) o1 o2 (fun h1 r p q e => Wv_setMark s p q e) (fun h1 a nz e => by
    have c : kLn a x1 = 0 ∨ kLn a x1 = 1 := by
      unfold kLn
      repeat' split
      all_goals omega
    rcases c with c | c
    · exact absurd c nz
    · have e : vcl mX12_setMark [(1, 3), (0, x1), (0, x2)] h = some (.inr (e3 (kLn a x1)), h1) := e
      show vcl mL_setMark [(1, 3), (0, x1), (0, x2), (1, 338)] h = some (.inl (some (0, kLn a x1)), h1)
      rw [c] at e ⊢
      exact Wx_setMark_1 s e
  )
theorem bL_shape : vmB mL_shape = cL_shape := rfl
theorem Wv_shape {h h1 : vH} {x1 : Int} {x2 : Int} {x3 : Int} {x4 : Int} (s : h 0 3 0 = 33) (e : vcl mX12_shape [(1, 3), (0, x1), (0, x2), (0, x3), (0, x4)] h = some (.inl none, h1)) : vcl mL_shape [(1, 3), (0, x1), (0, x2), (0, x3), (0, x4)] h = some (.inl (some (0, 0)), h1) := by
  refine vcl_as (L := [(1, 3), (0, x1), (0, x2), (0, x3), (0, x4), (9, 0)]) rfl ?_
  refine (rn_aload_n (pc := 0) (dd bL_shape dL_shape_0) rfl).trans ?_
  refine (rn_iload_n (pc := 1) (dd bL_shape dL_shape_1) rfl).trans ?_
  refine (rn_iload_n (pc := 2) (dd bL_shape dL_shape_2) rfl).trans ?_
  refine (rn_iload_n (pc := 3) (dd bL_shape dL_shape_3) rfl).trans ?_
  refine (rn_iload (pc := 4) (dd bL_shape dL_shape_4) rfl).trans ?_
  refine (rg_virtual (pc := 6) (dd bL_shape dL_shape_6) rfl rfl (by decide) (kc := 33) rfl s (as := [(1, 3), (0, x1), (0, x2), (0, x3), (0, x4)]) rfl ⟨Nat.le_of_ble_eq_true rfl, Nat.le_of_ble_eq_true rfl, Nat.le_of_ble_eq_true rfl, Nat.le_of_ble_eq_true rfl⟩).trans ?_
  refine (vret_n e).trans ?_
  refine (rn_goto (t := 20) (pc := 9) (dd bL_shape dL_shape_9) rfl).trans ?_
  refine (rn_iconst (pc := 20) (dd bL_shape dL_shape_20) (by decide)).trans ?_
  exact rn_ireturn (pc := 21) (dd bL_shape dL_shape_21) (Or.inl rfl)
theorem Wx_shape_1 {h h1 : vH} {x1 : Int} {x2 : Int} {x3 : Int} {x4 : Int} (s : h 0 3 0 = 33) (e : vcl mX12_shape [(1, 3), (0, x1), (0, x2), (0, x3), (0, x4)] h = some (.inr "java/lang/IndexOutOfBoundsException", h1)) : vcl mL_shape [(1, 3), (0, x1), (0, x2), (0, x3), (0, x4)] h = some (.inl (some (0, 1)), h1) := by
  refine vcl_as (L := [(1, 3), (0, x1), (0, x2), (0, x3), (0, x4), (9, 0)]) rfl ?_
  refine (rn_aload_n (pc := 0) (dd bL_shape dL_shape_0) rfl).trans ?_
  refine (rn_iload_n (pc := 1) (dd bL_shape dL_shape_1) rfl).trans ?_
  refine (rn_iload_n (pc := 2) (dd bL_shape dL_shape_2) rfl).trans ?_
  refine (rn_iload_n (pc := 3) (dd bL_shape dL_shape_3) rfl).trans ?_
  refine (rn_iload (pc := 4) (dd bL_shape dL_shape_4) rfl).trans ?_
  refine (rg_virtual (pc := 6) (dd bL_shape dL_shape_6) rfl rfl (by decide) (kc := 33) rfl s (as := [(1, 3), (0, x1), (0, x2), (0, x3), (0, x4)]) rfl ⟨Nat.le_of_ble_eq_true rfl, Nat.le_of_ble_eq_true rfl, Nat.le_of_ble_eq_true rfl, Nat.le_of_ble_eq_true rfl⟩).trans ?_
  refine (vret_h2 e (x := (0, 9, 12, 13, "java/lang/IndexOutOfBoundsException")) (by decide +kernel) rfl (dd bL_shape dL_shape_12) (Nat.le_of_ble_eq_true rfl) rfl).trans ?_
  refine (rn_iconst (pc := 14) (dd bL_shape dL_shape_14) (by decide)).trans ?_
  exact rn_ireturn (pc := 15) (dd bL_shape dL_shape_15) (Or.inl rfl)
theorem Wx_shape_2 {h h1 : vH} {x1 : Int} {x2 : Int} {x3 : Int} {x4 : Int} (s : h 0 3 0 = 33) (e : vcl mX12_shape [(1, 3), (0, x1), (0, x2), (0, x3), (0, x4)] h = some (.inr "java/lang/IllegalArgumentException", h1)) : vcl mL_shape [(1, 3), (0, x1), (0, x2), (0, x3), (0, x4)] h = some (.inl (some (0, 2)), h1) := by
  refine vcl_as (L := [(1, 3), (0, x1), (0, x2), (0, x3), (0, x4), (9, 0)]) rfl ?_
  refine (rn_aload_n (pc := 0) (dd bL_shape dL_shape_0) rfl).trans ?_
  refine (rn_iload_n (pc := 1) (dd bL_shape dL_shape_1) rfl).trans ?_
  refine (rn_iload_n (pc := 2) (dd bL_shape dL_shape_2) rfl).trans ?_
  refine (rn_iload_n (pc := 3) (dd bL_shape dL_shape_3) rfl).trans ?_
  refine (rn_iload (pc := 4) (dd bL_shape dL_shape_4) rfl).trans ?_
  refine (rg_virtual (pc := 6) (dd bL_shape dL_shape_6) rfl rfl (by decide) (kc := 33) rfl s (as := [(1, 3), (0, x1), (0, x2), (0, x3), (0, x4)]) rfl ⟨Nat.le_of_ble_eq_true rfl, Nat.le_of_ble_eq_true rfl, Nat.le_of_ble_eq_true rfl, Nat.le_of_ble_eq_true rfl⟩).trans ?_
  refine (vret_h2 e (x := (0, 9, 16, 19, "java/lang/IllegalArgumentException")) (by decide +kernel) rfl (dd bL_shape dL_shape_16) (Nat.le_of_ble_eq_true rfl) rfl).trans ?_
  refine (rn_iconst (pc := 18) (dd bL_shape dL_shape_18) (by decide)).trans ?_
  exact rn_ireturn (pc := 19) (dd bL_shape dL_shape_19) (Or.inl rfl)
theorem Wr_shape {n : Int} {h : vH} {x1 : Int} {x2 : Int} {x3 : Int} {x4 : Int} (J : JN n h) : wrpV n h (vcl mL_shape [(1, 3), (0, x1), (0, x2), (0, x3), (0, x4)] h) (fun a => vcl mX13_shape [(1, 282), (0, x1), (0, x2), (0, x3), (0, x4)] a) := by
  have s : h 0 3 0 = 33 := J.1.1.1
  exact w_coreV (N_shape J) (fun h1 e => Wv_shape s e) (fun h1 a nz e => by
    have c : kSp x1 x2 x3 x4 = 0 ∨ kSp x1 x2 x3 x4 = 1 ∨ kSp x1 x2 x3 x4 = 2 := by
      unfold kSp
      repeat' split
      all_goals omega
    rcases c with c | c | c
    · exact absurd c nz
    · have e : vcl mX12_shape [(1, 3), (0, x1), (0, x2), (0, x3), (0, x4)] h = some (.inr (e3 (kSp x1 x2 x3 x4)), h1) := e
      show vcl mL_shape [(1, 3), (0, x1), (0, x2), (0, x3), (0, x4)] h = some (.inl (some (0, kSp x1 x2 x3 x4)), h1)
      rw [c] at e ⊢
      exact Wx_shape_1 s e
    · have e : vcl mX12_shape [(1, 3), (0, x1), (0, x2), (0, x3), (0, x4)] h = some (.inr (e3 (kSp x1 x2 x3 x4)), h1) := e
      show vcl mL_shape [(1, 3), (0, x1), (0, x2), (0, x3), (0, x4)] h = some (.inl (some (0, kSp x1 x2 x3 x4)), h1)
      rw [c] at e ⊢
      exact Wx_shape_2 s e
  )
theorem bL_hide : vmB mL_hide = cL_hide := rfl
theorem Wv_hide {h h1 : vH} {x1 : Int} {x2 : Int} {x3 : Int} {x4 : Int} {r : Int} (s : h 0 3 0 = 33) (a : h1 0 338 0 = 3) (b : h1 1 338 0 = 1) (e : vcl mX12_hide [(1, 3), (0, x1), (0, x2), (0, x3), (0, x4)] h = some (.inl (some (0, r)), h1)) : vcl mL_hide [(1, 3), (0, x1), (0, x2), (0, x3), (0, x4), (1, 338)] h = some (.inl (some (0, 0)), vup h1 2 338 0 r) := by
  refine vcl_as (L := [(1, 3), (0, x1), (0, x2), (0, x3), (0, x4), (1, 338), (9, 0)]) rfl ?_
  refine (rn_aload (pc := 0) (dd bL_hide dL_hide_0) rfl).trans ?_
  refine (rn_iconst (pc := 2) (dd bL_hide dL_hide_2) (by decide)).trans ?_
  refine (rn_aload_n (pc := 3) (dd bL_hide dL_hide_3) rfl).trans ?_
  refine (rn_iload_n (pc := 4) (dd bL_hide dL_hide_4) rfl).trans ?_
  refine (rn_iload_n (pc := 5) (dd bL_hide dL_hide_5) rfl).trans ?_
  refine (rn_iload_n (pc := 6) (dd bL_hide dL_hide_6) rfl).trans ?_
  refine (rn_iload (pc := 7) (dd bL_hide dL_hide_7) rfl).trans ?_
  refine (rg_virtual (pc := 9) (dd bL_hide dL_hide_9) rfl rfl (by decide) (kc := 33) rfl s (as := [(1, 3), (0, x1), (0, x2), (0, x3), (0, x4)]) rfl ⟨Nat.le_of_ble_eq_true rfl, Nat.le_of_ble_eq_true rfl, Nat.le_of_ble_eq_true rfl, Nat.le_of_ble_eq_true rfl⟩).trans ?_
  refine (vret_v e).trans ?_
  refine (rn_i2l (pc := 12) (dd bL_hide dL_hide_12)).trans ?_
  refine (rg_lastore (pc := 13) (dd bL_hide dL_hide_13) a b (by decide) (by decide)).trans ?_
  refine (rn_goto (t := 29) (pc := 14) (dd bL_hide dL_hide_14) rfl).trans ?_
  refine (rn_iconst (pc := 29) (dd bL_hide dL_hide_29) (by decide)).trans ?_
  exact rn_ireturn (pc := 30) (dd bL_hide dL_hide_30) (Or.inl rfl)
theorem Wx_hide_1 {h h1 : vH} {x1 : Int} {x2 : Int} {x3 : Int} {x4 : Int} (s : h 0 3 0 = 33) (e : vcl mX12_hide [(1, 3), (0, x1), (0, x2), (0, x3), (0, x4)] h = some (.inr "java/lang/IndexOutOfBoundsException", h1)) : vcl mL_hide [(1, 3), (0, x1), (0, x2), (0, x3), (0, x4), (1, 338)] h = some (.inl (some (0, 1)), h1) := by
  refine vcl_as (L := [(1, 3), (0, x1), (0, x2), (0, x3), (0, x4), (1, 338), (9, 0)]) rfl ?_
  refine (rn_aload (pc := 0) (dd bL_hide dL_hide_0) rfl).trans ?_
  refine (rn_iconst (pc := 2) (dd bL_hide dL_hide_2) (by decide)).trans ?_
  refine (rn_aload_n (pc := 3) (dd bL_hide dL_hide_3) rfl).trans ?_
  refine (rn_iload_n (pc := 4) (dd bL_hide dL_hide_4) rfl).trans ?_
  refine (rn_iload_n (pc := 5) (dd bL_hide dL_hide_5) rfl).trans ?_
  refine (rn_iload_n (pc := 6) (dd bL_hide dL_hide_6) rfl).trans ?_
  refine (rn_iload (pc := 7) (dd bL_hide dL_hide_7) rfl).trans ?_
  refine (rg_virtual (pc := 9) (dd bL_hide dL_hide_9) rfl rfl (by decide) (kc := 33) rfl s (as := [(1, 3), (0, x1), (0, x2), (0, x3), (0, x4)]) rfl ⟨Nat.le_of_ble_eq_true rfl, Nat.le_of_ble_eq_true rfl, Nat.le_of_ble_eq_true rfl, Nat.le_of_ble_eq_true rfl⟩).trans ?_
  refine (vret_h2 e (x := (0, 14, 17, 13, "java/lang/IndexOutOfBoundsException")) (by decide +kernel) rfl (dd bL_hide dL_hide_17) (Nat.le_of_ble_eq_true rfl) rfl).trans ?_
  refine (rn_iconst (pc := 19) (dd bL_hide dL_hide_19) (by decide)).trans ?_
  exact rn_ireturn (pc := 20) (dd bL_hide dL_hide_20) (Or.inl rfl)
theorem Wx_hide_2 {h h1 : vH} {x1 : Int} {x2 : Int} {x3 : Int} {x4 : Int} (s : h 0 3 0 = 33) (e : vcl mX12_hide [(1, 3), (0, x1), (0, x2), (0, x3), (0, x4)] h = some (.inr "java/lang/IllegalArgumentException", h1)) : vcl mL_hide [(1, 3), (0, x1), (0, x2), (0, x3), (0, x4), (1, 338)] h = some (.inl (some (0, 2)), h1) := by
  refine vcl_as (L := [(1, 3), (0, x1), (0, x2), (0, x3), (0, x4), (1, 338), (9, 0)]) rfl ?_
  refine (rn_aload (pc := 0) (dd bL_hide dL_hide_0) rfl).trans ?_
  refine (rn_iconst (pc := 2) (dd bL_hide dL_hide_2) (by decide)).trans ?_
  refine (rn_aload_n (pc := 3) (dd bL_hide dL_hide_3) rfl).trans ?_
  refine (rn_iload_n (pc := 4) (dd bL_hide dL_hide_4) rfl).trans ?_
  refine (rn_iload_n (pc := 5) (dd bL_hide dL_hide_5) rfl).trans ?_
  refine (rn_iload_n (pc := 6) (dd bL_hide dL_hide_6) rfl).trans ?_
  refine (rn_iload (pc := 7) (dd bL_hide dL_hide_7) rfl).trans ?_
  refine (rg_virtual (pc := 9) (dd bL_hide dL_hide_9) rfl rfl (by decide) (kc := 33) rfl s (as := [(1, 3), (0, x1), (0, x2), (0, x3), (0, x4)]) rfl ⟨Nat.le_of_ble_eq_true rfl, Nat.le_of_ble_eq_true rfl, Nat.le_of_ble_eq_true rfl, Nat.le_of_ble_eq_true rfl⟩).trans ?_
  refine (vret_h2 e (x := (0, 14, 21, 19, "java/lang/IllegalArgumentException")) (by decide +kernel) rfl (dd bL_hide dL_hide_21) (Nat.le_of_ble_eq_true rfl) rfl).trans ?_
  refine (rn_iconst (pc := 23) (dd bL_hide dL_hide_23) (by decide)).trans ?_
  exact rn_ireturn (pc := 24) (dd bL_hide dL_hide_24) (Or.inl rfl)
theorem Wx_hide_3 {h h1 : vH} {x1 : Int} {x2 : Int} {x3 : Int} {x4 : Int} (s : h 0 3 0 = 33) (e : vcl mX12_hide [(1, 3), (0, x1), (0, x2), (0, x3), (0, x4)] h = some (.inr "java/lang/IllegalStateException", h1)) : vcl mL_hide [(1, 3), (0, x1), (0, x2), (0, x3), (0, x4), (1, 338)] h = some (.inl (some (0, 3)), h1) := by
  refine vcl_as (L := [(1, 3), (0, x1), (0, x2), (0, x3), (0, x4), (1, 338), (9, 0)]) rfl ?_
  refine (rn_aload (pc := 0) (dd bL_hide dL_hide_0) rfl).trans ?_
  refine (rn_iconst (pc := 2) (dd bL_hide dL_hide_2) (by decide)).trans ?_
  refine (rn_aload_n (pc := 3) (dd bL_hide dL_hide_3) rfl).trans ?_
  refine (rn_iload_n (pc := 4) (dd bL_hide dL_hide_4) rfl).trans ?_
  refine (rn_iload_n (pc := 5) (dd bL_hide dL_hide_5) rfl).trans ?_
  refine (rn_iload_n (pc := 6) (dd bL_hide dL_hide_6) rfl).trans ?_
  refine (rn_iload (pc := 7) (dd bL_hide dL_hide_7) rfl).trans ?_
  refine (rg_virtual (pc := 9) (dd bL_hide dL_hide_9) rfl rfl (by decide) (kc := 33) rfl s (as := [(1, 3), (0, x1), (0, x2), (0, x3), (0, x4)]) rfl ⟨Nat.le_of_ble_eq_true rfl, Nat.le_of_ble_eq_true rfl, Nat.le_of_ble_eq_true rfl, Nat.le_of_ble_eq_true rfl⟩).trans ?_
  refine (vret_h2 e (x := (0, 14, 25, 25, "java/lang/IllegalStateException")) (by decide +kernel) rfl (dd bL_hide dL_hide_25) (Nat.le_of_ble_eq_true rfl) rfl).trans ?_
  refine (rn_iconst (pc := 27) (dd bL_hide dL_hide_27) (by decide)).trans ?_
  exact rn_ireturn (pc := 28) (dd bL_hide dL_hide_28) (Or.inl rfl)
theorem Wr_hide {n : Int} {h : vH} {x1 : Int} {x2 : Int} {x3 : Int} {x4 : Int} (J : JN n h) (hn : 0 ≤ n ∧ n ≤ 9000) (o1 : h 0 338 0 = 3) (o2 : h 1 338 0 = 1) : wrp n h (fun r => r) (vcl mL_hide [(1, 3), (0, x1), (0, x2), (0, x3), (0, x4), (1, 338)] h) (fun a => vcl mX13_hide [(1, 282), (0, x1), (0, x2), (0, x3), (0, x4)] a) := by
  have s : h 0 3 0 = 33 := J.1.1.1
  exact w_core (N_hide J hn) o1 o2 (fun h1 r p q e => Wv_hide s p q e) (fun h1 a nz e => by
    have c : kHd a x1 x2 x3 x4 = 0 ∨ kHd a x1 x2 x3 x4 = 1 ∨ kHd a x1 x2 x3 x4 = 2 ∨ kHd a x1 x2 x3 x4 = 3 := by
      unfold kHd
      repeat' split
      all_goals omega
    rcases c with c | c | c | c
    · exact absurd c nz
    · have e : vcl mX12_hide [(1, 3), (0, x1), (0, x2), (0, x3), (0, x4)] h = some (.inr (e3 (kHd a x1 x2 x3 x4)), h1) := e
      show vcl mL_hide [(1, 3), (0, x1), (0, x2), (0, x3), (0, x4), (1, 338)] h = some (.inl (some (0, kHd a x1 x2 x3 x4)), h1)
      rw [c] at e ⊢
      exact Wx_hide_1 s e
    · have e : vcl mX12_hide [(1, 3), (0, x1), (0, x2), (0, x3), (0, x4)] h = some (.inr (e3 (kHd a x1 x2 x3 x4)), h1) := e
      show vcl mL_hide [(1, 3), (0, x1), (0, x2), (0, x3), (0, x4), (1, 338)] h = some (.inl (some (0, kHd a x1 x2 x3 x4)), h1)
      rw [c] at e ⊢
      exact Wx_hide_2 s e
    · have e : vcl mX12_hide [(1, 3), (0, x1), (0, x2), (0, x3), (0, x4)] h = some (.inr (e3 (kHd a x1 x2 x3 x4)), h1) := e
      show vcl mL_hide [(1, 3), (0, x1), (0, x2), (0, x3), (0, x4), (1, 338)] h = some (.inl (some (0, kHd a x1 x2 x3 x4)), h1)
      rw [c] at e ⊢
      exact Wx_hide_3 s e
  )
theorem bL_show : vmB mL_show = cL_show := rfl
theorem Wv_show {h h1 : vH} {x1 : Int} {x2 : Int} {r : Int} (s : h 0 3 0 = 33) (a : h1 0 338 0 = 3) (b : h1 1 338 0 = 1) (e : vcl mX12_show [(1, 3), (0, x1), (0, x2)] h = some (.inl (some (0, r)), h1)) : vcl mL_show [(1, 3), (0, x1), (0, x2), (1, 338)] h = some (.inl (some (0, 0)), vup h1 2 338 0 r) := by
  refine vcl_as (L := [(1, 3), (0, x1), (0, x2), (1, 338), (9, 0)]) rfl ?_
  refine (rn_aload_n (pc := 0) (dd bL_show dL_show_0) rfl).trans ?_
  refine (rn_iconst (pc := 1) (dd bL_show dL_show_1) (by decide)).trans ?_
  refine (rn_aload_n (pc := 2) (dd bL_show dL_show_2) rfl).trans ?_
  refine (rn_iload_n (pc := 3) (dd bL_show dL_show_3) rfl).trans ?_
  refine (rn_iload_n (pc := 4) (dd bL_show dL_show_4) rfl).trans ?_
  refine (rg_virtual (pc := 5) (dd bL_show dL_show_5) rfl rfl (by decide) (kc := 33) rfl s (as := [(1, 3), (0, x1), (0, x2)]) rfl ⟨Nat.le_of_ble_eq_true rfl, Nat.le_of_ble_eq_true rfl, Nat.le_of_ble_eq_true rfl, Nat.le_of_ble_eq_true rfl⟩).trans ?_
  refine (vret_v e).trans ?_
  refine (rn_i2l (pc := 8) (dd bL_show dL_show_8)).trans ?_
  refine (rg_lastore (pc := 9) (dd bL_show dL_show_9) a b (by decide) (by decide)).trans ?_
  refine (rn_goto (t := 17) (pc := 10) (dd bL_show dL_show_10) rfl).trans ?_
  refine (rn_iconst (pc := 17) (dd bL_show dL_show_17) (by decide)).trans ?_
  exact rn_ireturn (pc := 18) (dd bL_show dL_show_18) (Or.inl rfl)
theorem Wx_show_1 {h h1 : vH} {x1 : Int} {x2 : Int} (s : h 0 3 0 = 33) (e : vcl mX12_show [(1, 3), (0, x1), (0, x2)] h = some (.inr "java/lang/IndexOutOfBoundsException", h1)) : vcl mL_show [(1, 3), (0, x1), (0, x2), (1, 338)] h = some (.inl (some (0, 1)), h1) := by
  refine vcl_as (L := [(1, 3), (0, x1), (0, x2), (1, 338), (9, 0)]) rfl ?_
  refine (rn_aload_n (pc := 0) (dd bL_show dL_show_0) rfl).trans ?_
  refine (rn_iconst (pc := 1) (dd bL_show dL_show_1) (by decide)).trans ?_
  refine (rn_aload_n (pc := 2) (dd bL_show dL_show_2) rfl).trans ?_
  refine (rn_iload_n (pc := 3) (dd bL_show dL_show_3) rfl).trans ?_
  refine (rn_iload_n (pc := 4) (dd bL_show dL_show_4) rfl).trans ?_
  refine (rg_virtual (pc := 5) (dd bL_show dL_show_5) rfl rfl (by decide) (kc := 33) rfl s (as := [(1, 3), (0, x1), (0, x2)]) rfl ⟨Nat.le_of_ble_eq_true rfl, Nat.le_of_ble_eq_true rfl, Nat.le_of_ble_eq_true rfl, Nat.le_of_ble_eq_true rfl⟩).trans ?_
  refine (vret_h2 e (x := (0, 10, 13, 13, "java/lang/IndexOutOfBoundsException")) (by decide +kernel) rfl (dd bL_show dL_show_13) (Nat.le_of_ble_eq_true rfl) rfl).trans ?_
  refine (rn_iconst (pc := 15) (dd bL_show dL_show_15) (by decide)).trans ?_
  exact rn_ireturn (pc := 16) (dd bL_show dL_show_16) (Or.inl rfl)
theorem Wr_show {n : Int} {h : vH} {x1 : Int} {x2 : Int} (J : JN n h) (o1 : h 0 338 0 = 3) (o2 : h 1 338 0 = 1) : wrp n h (fun r => r) (vcl mL_show [(1, 3), (0, x1), (0, x2), (1, 338)] h) (fun a => vcl mX13_show [(1, 282), (0, x1), (0, x2)] a) := by
  have s : h 0 3 0 = 33 := J.1.1.1
  exact w_core (N_show J) o1 o2 (fun h1 r p q e => Wv_show s p q e) (fun h1 a nz e => by
    have c : kSo a x1 x2 = 0 ∨ kSo a x1 x2 = 1 := by
      unfold kSo
      repeat' split
      all_goals omega
    rcases c with c | c
    · exact absurd c nz
    · have e : vcl mX12_show [(1, 3), (0, x1), (0, x2)] h = some (.inr (e2 (kSo a x1 x2)), h1) := e
      show vcl mL_show [(1, 3), (0, x1), (0, x2), (1, 338)] h = some (.inl (some (0, kSo a x1 x2)), h1)
      rw [c] at e ⊢
      exact Wx_show_1 s e
  )
theorem bL_addVirtual : vmB mL_addVirtual = cL_addVirtual := rfl
theorem Wv_addVirtual {h h1 : vH} {x1 : Int} {x2 : Int} {x3 : Int} {x4 : Int} {r : Int} (s : h 0 3 0 = 33) (a : h1 0 338 0 = 3) (b : h1 1 338 0 = 1) (e : vcl mX12_addVirtual [(1, 3), (0, x1), (0, x2), (0, x3), (2, x4)] h = some (.inl (some (0, r)), h1)) : vcl mL_addVirtual [(1, 3), (0, x1), (0, x2), (0, x3), (2, x4), (1, 338)] h = some (.inl (some (0, 0)), vup h1 2 338 0 r) := by
  refine vcl_as (L := [(1, 3), (0, x1), (0, x2), (0, x3), (2, x4), (8, 0), (1, 338), (9, 0)]) rfl ?_
  refine (rn_aload (pc := 0) (dd bL_addVirtual dL_addVirtual_0) rfl).trans ?_
  refine (rn_iconst (pc := 2) (dd bL_addVirtual dL_addVirtual_2) (by decide)).trans ?_
  refine (rn_aload_n (pc := 3) (dd bL_addVirtual dL_addVirtual_3) rfl).trans ?_
  refine (rn_iload_n (pc := 4) (dd bL_addVirtual dL_addVirtual_4) rfl).trans ?_
  refine (rn_iload_n (pc := 5) (dd bL_addVirtual dL_addVirtual_5) rfl).trans ?_
  refine (rn_iload_n (pc := 6) (dd bL_addVirtual dL_addVirtual_6) rfl).trans ?_
  refine (rn_lload (pc := 7) (dd bL_addVirtual dL_addVirtual_7) rfl).trans ?_
  refine (rg_virtual (pc := 9) (dd bL_addVirtual dL_addVirtual_9) rfl rfl (by decide) (kc := 33) rfl s (as := [(1, 3), (0, x1), (0, x2), (0, x3), (2, x4)]) rfl ⟨Nat.le_of_ble_eq_true rfl, Nat.le_of_ble_eq_true rfl, Nat.le_of_ble_eq_true rfl, Nat.le_of_ble_eq_true rfl⟩).trans ?_
  refine (vret_v e).trans ?_
  refine (rn_i2l (pc := 12) (dd bL_addVirtual dL_addVirtual_12)).trans ?_
  refine (rg_lastore (pc := 13) (dd bL_addVirtual dL_addVirtual_13) a b (by decide) (by decide)).trans ?_
  refine (rn_goto (t := 29) (pc := 14) (dd bL_addVirtual dL_addVirtual_14) rfl).trans ?_
  refine (rn_iconst (pc := 29) (dd bL_addVirtual dL_addVirtual_29) (by decide)).trans ?_
  exact rn_ireturn (pc := 30) (dd bL_addVirtual dL_addVirtual_30) (Or.inl rfl)
theorem Wx_addVirtual_1 {h h1 : vH} {x1 : Int} {x2 : Int} {x3 : Int} {x4 : Int} (s : h 0 3 0 = 33) (e : vcl mX12_addVirtual [(1, 3), (0, x1), (0, x2), (0, x3), (2, x4)] h = some (.inr "java/lang/IndexOutOfBoundsException", h1)) : vcl mL_addVirtual [(1, 3), (0, x1), (0, x2), (0, x3), (2, x4), (1, 338)] h = some (.inl (some (0, 1)), h1) := by
  refine vcl_as (L := [(1, 3), (0, x1), (0, x2), (0, x3), (2, x4), (8, 0), (1, 338), (9, 0)]) rfl ?_
  refine (rn_aload (pc := 0) (dd bL_addVirtual dL_addVirtual_0) rfl).trans ?_
  refine (rn_iconst (pc := 2) (dd bL_addVirtual dL_addVirtual_2) (by decide)).trans ?_
  refine (rn_aload_n (pc := 3) (dd bL_addVirtual dL_addVirtual_3) rfl).trans ?_
  refine (rn_iload_n (pc := 4) (dd bL_addVirtual dL_addVirtual_4) rfl).trans ?_
  refine (rn_iload_n (pc := 5) (dd bL_addVirtual dL_addVirtual_5) rfl).trans ?_
  refine (rn_iload_n (pc := 6) (dd bL_addVirtual dL_addVirtual_6) rfl).trans ?_
  refine (rn_lload (pc := 7) (dd bL_addVirtual dL_addVirtual_7) rfl).trans ?_
  refine (rg_virtual (pc := 9) (dd bL_addVirtual dL_addVirtual_9) rfl rfl (by decide) (kc := 33) rfl s (as := [(1, 3), (0, x1), (0, x2), (0, x3), (2, x4)]) rfl ⟨Nat.le_of_ble_eq_true rfl, Nat.le_of_ble_eq_true rfl, Nat.le_of_ble_eq_true rfl, Nat.le_of_ble_eq_true rfl⟩).trans ?_
  refine (vret_h2 e (x := (0, 14, 17, 13, "java/lang/IndexOutOfBoundsException")) (by decide +kernel) rfl (dd bL_addVirtual dL_addVirtual_17) (Nat.le_of_ble_eq_true rfl) rfl).trans ?_
  refine (rn_iconst (pc := 19) (dd bL_addVirtual dL_addVirtual_19) (by decide)).trans ?_
  exact rn_ireturn (pc := 20) (dd bL_addVirtual dL_addVirtual_20) (Or.inl rfl)
theorem Wx_addVirtual_2 {h h1 : vH} {x1 : Int} {x2 : Int} {x3 : Int} {x4 : Int} (s : h 0 3 0 = 33) (e : vcl mX12_addVirtual [(1, 3), (0, x1), (0, x2), (0, x3), (2, x4)] h = some (.inr "java/lang/IllegalArgumentException", h1)) : vcl mL_addVirtual [(1, 3), (0, x1), (0, x2), (0, x3), (2, x4), (1, 338)] h = some (.inl (some (0, 2)), h1) := by
  refine vcl_as (L := [(1, 3), (0, x1), (0, x2), (0, x3), (2, x4), (8, 0), (1, 338), (9, 0)]) rfl ?_
  refine (rn_aload (pc := 0) (dd bL_addVirtual dL_addVirtual_0) rfl).trans ?_
  refine (rn_iconst (pc := 2) (dd bL_addVirtual dL_addVirtual_2) (by decide)).trans ?_
  refine (rn_aload_n (pc := 3) (dd bL_addVirtual dL_addVirtual_3) rfl).trans ?_
  refine (rn_iload_n (pc := 4) (dd bL_addVirtual dL_addVirtual_4) rfl).trans ?_
  refine (rn_iload_n (pc := 5) (dd bL_addVirtual dL_addVirtual_5) rfl).trans ?_
  refine (rn_iload_n (pc := 6) (dd bL_addVirtual dL_addVirtual_6) rfl).trans ?_
  refine (rn_lload (pc := 7) (dd bL_addVirtual dL_addVirtual_7) rfl).trans ?_
  refine (rg_virtual (pc := 9) (dd bL_addVirtual dL_addVirtual_9) rfl rfl (by decide) (kc := 33) rfl s (as := [(1, 3), (0, x1), (0, x2), (0, x3), (2, x4)]) rfl ⟨Nat.le_of_ble_eq_true rfl, Nat.le_of_ble_eq_true rfl, Nat.le_of_ble_eq_true rfl, Nat.le_of_ble_eq_true rfl⟩).trans ?_
  refine (vret_h2 e (x := (0, 14, 21, 19, "java/lang/IllegalArgumentException")) (by decide +kernel) rfl (dd bL_addVirtual dL_addVirtual_21) (Nat.le_of_ble_eq_true rfl) rfl).trans ?_
  refine (rn_iconst (pc := 23) (dd bL_addVirtual dL_addVirtual_23) (by decide)).trans ?_
  exact rn_ireturn (pc := 24) (dd bL_addVirtual dL_addVirtual_24) (Or.inl rfl)
theorem Wx_addVirtual_3 {h h1 : vH} {x1 : Int} {x2 : Int} {x3 : Int} {x4 : Int} (s : h 0 3 0 = 33) (e : vcl mX12_addVirtual [(1, 3), (0, x1), (0, x2), (0, x3), (2, x4)] h = some (.inr "java/lang/IllegalStateException", h1)) : vcl mL_addVirtual [(1, 3), (0, x1), (0, x2), (0, x3), (2, x4), (1, 338)] h = some (.inl (some (0, 3)), h1) := by
  refine vcl_as (L := [(1, 3), (0, x1), (0, x2), (0, x3), (2, x4), (8, 0), (1, 338), (9, 0)]) rfl ?_
  refine (rn_aload (pc := 0) (dd bL_addVirtual dL_addVirtual_0) rfl).trans ?_
  refine (rn_iconst (pc := 2) (dd bL_addVirtual dL_addVirtual_2) (by decide)).trans ?_
  refine (rn_aload_n (pc := 3) (dd bL_addVirtual dL_addVirtual_3) rfl).trans ?_
  refine (rn_iload_n (pc := 4) (dd bL_addVirtual dL_addVirtual_4) rfl).trans ?_
  refine (rn_iload_n (pc := 5) (dd bL_addVirtual dL_addVirtual_5) rfl).trans ?_
  refine (rn_iload_n (pc := 6) (dd bL_addVirtual dL_addVirtual_6) rfl).trans ?_
  refine (rn_lload (pc := 7) (dd bL_addVirtual dL_addVirtual_7) rfl).trans ?_
  refine (rg_virtual (pc := 9) (dd bL_addVirtual dL_addVirtual_9) rfl rfl (by decide) (kc := 33) rfl s (as := [(1, 3), (0, x1), (0, x2), (0, x3), (2, x4)]) rfl ⟨Nat.le_of_ble_eq_true rfl, Nat.le_of_ble_eq_true rfl, Nat.le_of_ble_eq_true rfl, Nat.le_of_ble_eq_true rfl⟩).trans ?_
  refine (vret_h2 e (x := (0, 14, 25, 25, "java/lang/IllegalStateException")) (by decide +kernel) rfl (dd bL_addVirtual dL_addVirtual_25) (Nat.le_of_ble_eq_true rfl) rfl).trans ?_
  refine (rn_iconst (pc := 27) (dd bL_addVirtual dL_addVirtual_27) (by decide)).trans ?_
  exact rn_ireturn (pc := 28) (dd bL_addVirtual dL_addVirtual_28) (Or.inl rfl)
theorem Wr_addVirtual {n : Int} {h : vH} {x1 : Int} {x2 : Int} {x3 : Int} {x4 : Int} (J : JN n h) (hn : 0 ≤ n ∧ n ≤ 9000) (hz : -9223372036854775808 ≤ x4 ∧ x4 < 9223372036854775808) (o1 : h 0 338 0 = 3) (o2 : h 1 338 0 = 1) : wrp n h (fun r => r) (vcl mL_addVirtual [(1, 3), (0, x1), (0, x2), (0, x3), (2, x4), (1, 338)] h) (fun a => vcl mX13_addVirtual [(1, 282), (0, x1), (0, x2), (0, x3), (2, x4)] a) := by
  have s : h 0 3 0 = 33 := J.1.1.1
  exact w_core (N_addVirtual J hn hz) o1 o2 (fun h1 r p q e => Wv_addVirtual s p q e) (fun h1 a nz e => by
    have c : kAv a x1 x2 x3 x4 = 0 ∨ kAv a x1 x2 x3 x4 = 1 ∨ kAv a x1 x2 x3 x4 = 2 ∨ kAv a x1 x2 x3 x4 = 3 := by
      unfold kAv
      repeat' split
      all_goals omega
    rcases c with c | c | c | c
    · exact absurd c nz
    · have e : vcl mX12_addVirtual [(1, 3), (0, x1), (0, x2), (0, x3), (2, x4)] h = some (.inr (e3 (kAv a x1 x2 x3 x4)), h1) := e
      show vcl mL_addVirtual [(1, 3), (0, x1), (0, x2), (0, x3), (2, x4), (1, 338)] h = some (.inl (some (0, kAv a x1 x2 x3 x4)), h1)
      rw [c] at e ⊢
      exact Wx_addVirtual_1 s e
    · have e : vcl mX12_addVirtual [(1, 3), (0, x1), (0, x2), (0, x3), (2, x4)] h = some (.inr (e3 (kAv a x1 x2 x3 x4)), h1) := e
      show vcl mL_addVirtual [(1, 3), (0, x1), (0, x2), (0, x3), (2, x4), (1, 338)] h = some (.inl (some (0, kAv a x1 x2 x3 x4)), h1)
      rw [c] at e ⊢
      exact Wx_addVirtual_2 s e
    · have e : vcl mX12_addVirtual [(1, 3), (0, x1), (0, x2), (0, x3), (2, x4)] h = some (.inr (e3 (kAv a x1 x2 x3 x4)), h1) := e
      show vcl mL_addVirtual [(1, 3), (0, x1), (0, x2), (0, x3), (2, x4), (1, 338)] h = some (.inl (some (0, kAv a x1 x2 x3 x4)), h1)
      rw [c] at e ⊢
      exact Wx_addVirtual_3 s e
  )
theorem bL_dropVirtual : vmB mL_dropVirtual = cL_dropVirtual := rfl
theorem Wv_dropVirtual {h h1 : vH} {x1 : Int} {x2 : Int} {r : Int} (s : h 0 3 0 = 33) (a : h1 0 338 0 = 3) (b : h1 1 338 0 = 1) (e : vcl mX12_dropVirtual [(1, 3), (0, x1), (0, x2)] h = some (.inl (some (0, r)), h1)) : vcl mL_dropVirtual [(1, 3), (0, x1), (0, x2), (1, 338)] h = some (.inl (some (0, 0)), vup h1 2 338 0 r) := by
  refine vcl_as (L := [(1, 3), (0, x1), (0, x2), (1, 338), (9, 0)]) rfl ?_
  refine (rn_aload_n (pc := 0) (dd bL_dropVirtual dL_dropVirtual_0) rfl).trans ?_
  refine (rn_iconst (pc := 1) (dd bL_dropVirtual dL_dropVirtual_1) (by decide)).trans ?_
  refine (rn_aload_n (pc := 2) (dd bL_dropVirtual dL_dropVirtual_2) rfl).trans ?_
  refine (rn_iload_n (pc := 3) (dd bL_dropVirtual dL_dropVirtual_3) rfl).trans ?_
  refine (rn_iload_n (pc := 4) (dd bL_dropVirtual dL_dropVirtual_4) rfl).trans ?_
  refine (rg_virtual (pc := 5) (dd bL_dropVirtual dL_dropVirtual_5) rfl rfl (by decide) (kc := 33) rfl s (as := [(1, 3), (0, x1), (0, x2)]) rfl ⟨Nat.le_of_ble_eq_true rfl, Nat.le_of_ble_eq_true rfl, Nat.le_of_ble_eq_true rfl, Nat.le_of_ble_eq_true rfl⟩).trans ?_
  refine (vret_v e).trans ?_
  refine (rn_i2l (pc := 8) (dd bL_dropVirtual dL_dropVirtual_8)).trans ?_
  refine (rg_lastore (pc := 9) (dd bL_dropVirtual dL_dropVirtual_9) a b (by decide) (by decide)).trans ?_
  refine (rn_goto (t := 21) (pc := 10) (dd bL_dropVirtual dL_dropVirtual_10) rfl).trans ?_
  refine (rn_iconst (pc := 21) (dd bL_dropVirtual dL_dropVirtual_21) (by decide)).trans ?_
  exact rn_ireturn (pc := 22) (dd bL_dropVirtual dL_dropVirtual_22) (Or.inl rfl)
theorem Wx_dropVirtual_1 {h h1 : vH} {x1 : Int} {x2 : Int} (s : h 0 3 0 = 33) (e : vcl mX12_dropVirtual [(1, 3), (0, x1), (0, x2)] h = some (.inr "java/lang/IndexOutOfBoundsException", h1)) : vcl mL_dropVirtual [(1, 3), (0, x1), (0, x2), (1, 338)] h = some (.inl (some (0, 1)), h1) := by
  refine vcl_as (L := [(1, 3), (0, x1), (0, x2), (1, 338), (9, 0)]) rfl ?_
  refine (rn_aload_n (pc := 0) (dd bL_dropVirtual dL_dropVirtual_0) rfl).trans ?_
  refine (rn_iconst (pc := 1) (dd bL_dropVirtual dL_dropVirtual_1) (by decide)).trans ?_
  refine (rn_aload_n (pc := 2) (dd bL_dropVirtual dL_dropVirtual_2) rfl).trans ?_
  refine (rn_iload_n (pc := 3) (dd bL_dropVirtual dL_dropVirtual_3) rfl).trans ?_
  refine (rn_iload_n (pc := 4) (dd bL_dropVirtual dL_dropVirtual_4) rfl).trans ?_
  refine (rg_virtual (pc := 5) (dd bL_dropVirtual dL_dropVirtual_5) rfl rfl (by decide) (kc := 33) rfl s (as := [(1, 3), (0, x1), (0, x2)]) rfl ⟨Nat.le_of_ble_eq_true rfl, Nat.le_of_ble_eq_true rfl, Nat.le_of_ble_eq_true rfl, Nat.le_of_ble_eq_true rfl⟩).trans ?_
  refine (vret_h2 e (x := (0, 10, 13, 13, "java/lang/IndexOutOfBoundsException")) (by decide +kernel) rfl (dd bL_dropVirtual dL_dropVirtual_13) (Nat.le_of_ble_eq_true rfl) rfl).trans ?_
  refine (rn_iconst (pc := 15) (dd bL_dropVirtual dL_dropVirtual_15) (by decide)).trans ?_
  exact rn_ireturn (pc := 16) (dd bL_dropVirtual dL_dropVirtual_16) (Or.inl rfl)
theorem Wx_dropVirtual_2 {h h1 : vH} {x1 : Int} {x2 : Int} (s : h 0 3 0 = 33) (e : vcl mX12_dropVirtual [(1, 3), (0, x1), (0, x2)] h = some (.inr "java/lang/IllegalArgumentException", h1)) : vcl mL_dropVirtual [(1, 3), (0, x1), (0, x2), (1, 338)] h = some (.inl (some (0, 2)), h1) := by
  refine vcl_as (L := [(1, 3), (0, x1), (0, x2), (1, 338), (9, 0)]) rfl ?_
  refine (rn_aload_n (pc := 0) (dd bL_dropVirtual dL_dropVirtual_0) rfl).trans ?_
  refine (rn_iconst (pc := 1) (dd bL_dropVirtual dL_dropVirtual_1) (by decide)).trans ?_
  refine (rn_aload_n (pc := 2) (dd bL_dropVirtual dL_dropVirtual_2) rfl).trans ?_
  refine (rn_iload_n (pc := 3) (dd bL_dropVirtual dL_dropVirtual_3) rfl).trans ?_
  refine (rn_iload_n (pc := 4) (dd bL_dropVirtual dL_dropVirtual_4) rfl).trans ?_
  refine (rg_virtual (pc := 5) (dd bL_dropVirtual dL_dropVirtual_5) rfl rfl (by decide) (kc := 33) rfl s (as := [(1, 3), (0, x1), (0, x2)]) rfl ⟨Nat.le_of_ble_eq_true rfl, Nat.le_of_ble_eq_true rfl, Nat.le_of_ble_eq_true rfl, Nat.le_of_ble_eq_true rfl⟩).trans ?_
  refine (vret_h2 e (x := (0, 10, 17, 19, "java/lang/IllegalArgumentException")) (by decide +kernel) rfl (dd bL_dropVirtual dL_dropVirtual_17) (Nat.le_of_ble_eq_true rfl) rfl).trans ?_
  refine (rn_iconst (pc := 19) (dd bL_dropVirtual dL_dropVirtual_19) (by decide)).trans ?_
  exact rn_ireturn (pc := 20) (dd bL_dropVirtual dL_dropVirtual_20) (Or.inl rfl)
theorem Wr_dropVirtual {n : Int} {h : vH} {x1 : Int} {x2 : Int} (J : JN n h) (o1 : h 0 338 0 = 3) (o2 : h 1 338 0 = 1) : wrp n h (fun r => r) (vcl mL_dropVirtual [(1, 3), (0, x1), (0, x2), (1, 338)] h) (fun a => vcl mX13_dropVirtual [(1, 282), (0, x1), (0, x2)] a) := by
  have s : h 0 3 0 = 33 := J.1.1.1
  exact w_core (N_dropVirtual J) o1 o2 (fun h1 r p q e => Wv_dropVirtual s p q e) (fun h1 a nz e => by
    have c : kDv a x1 x2 = 0 ∨ kDv a x1 x2 = 1 ∨ kDv a x1 x2 = 2 := by
      unfold kDv
      repeat' split
      all_goals omega
    rcases c with c | c | c
    · exact absurd c nz
    · have e : vcl mX12_dropVirtual [(1, 3), (0, x1), (0, x2)] h = some (.inr (e3 (kDv a x1 x2)), h1) := e
      show vcl mL_dropVirtual [(1, 3), (0, x1), (0, x2), (1, 338)] h = some (.inl (some (0, kDv a x1 x2)), h1)
      rw [c] at e ⊢
      exact Wx_dropVirtual_1 s e
    · have e : vcl mX12_dropVirtual [(1, 3), (0, x1), (0, x2)] h = some (.inr (e3 (kDv a x1 x2)), h1) := e
      show vcl mL_dropVirtual [(1, 3), (0, x1), (0, x2), (1, 338)] h = some (.inl (some (0, kDv a x1 x2)), h1)
      rw [c] at e ⊢
      exact Wx_dropVirtual_2 s e
  )
theorem bL_addFold : vmB mL_addFold = cL_addFold := rfl
theorem Wv_addFold {h h1 : vH} {x1 : Int} {x2 : Int} {x3 : Int} {r : Int} (s : h 0 3 0 = 33) (a : h1 0 338 0 = 3) (b : h1 1 338 0 = 1) (e : vcl mX12_addFold [(1, 3), (0, x1), (0, x2), (0, x3)] h = some (.inl (some (0, r)), h1)) : vcl mL_addFold [(1, 3), (0, x1), (0, x2), (0, x3), (1, 338)] h = some (.inl (some (0, 0)), vup h1 2 338 0 r) := by
  refine vcl_as (L := [(1, 3), (0, x1), (0, x2), (0, x3), (1, 338), (9, 0)]) rfl ?_
  refine (rn_aload (pc := 0) (dd bL_addFold dL_addFold_0) rfl).trans ?_
  refine (rn_iconst (pc := 2) (dd bL_addFold dL_addFold_2) (by decide)).trans ?_
  refine (rn_aload_n (pc := 3) (dd bL_addFold dL_addFold_3) rfl).trans ?_
  refine (rn_iload_n (pc := 4) (dd bL_addFold dL_addFold_4) rfl).trans ?_
  refine (rn_iload_n (pc := 5) (dd bL_addFold dL_addFold_5) rfl).trans ?_
  refine (rn_iload_n (pc := 6) (dd bL_addFold dL_addFold_6) rfl).trans ?_
  refine (rg_virtual (pc := 7) (dd bL_addFold dL_addFold_7) rfl rfl (by decide) (kc := 33) rfl s (as := [(1, 3), (0, x1), (0, x2), (0, x3)]) rfl ⟨Nat.le_of_ble_eq_true rfl, Nat.le_of_ble_eq_true rfl, Nat.le_of_ble_eq_true rfl, Nat.le_of_ble_eq_true rfl⟩).trans ?_
  refine (vret_v e).trans ?_
  refine (rn_i2l (pc := 10) (dd bL_addFold dL_addFold_10)).trans ?_
  refine (rg_lastore (pc := 11) (dd bL_addFold dL_addFold_11) a b (by decide) (by decide)).trans ?_
  refine (rn_goto (t := 27) (pc := 12) (dd bL_addFold dL_addFold_12) rfl).trans ?_
  refine (rn_iconst (pc := 27) (dd bL_addFold dL_addFold_27) (by decide)).trans ?_
  exact rn_ireturn (pc := 28) (dd bL_addFold dL_addFold_28) (Or.inl rfl)
theorem Wx_addFold_1 {h h1 : vH} {x1 : Int} {x2 : Int} {x3 : Int} (s : h 0 3 0 = 33) (e : vcl mX12_addFold [(1, 3), (0, x1), (0, x2), (0, x3)] h = some (.inr "java/lang/IndexOutOfBoundsException", h1)) : vcl mL_addFold [(1, 3), (0, x1), (0, x2), (0, x3), (1, 338)] h = some (.inl (some (0, 1)), h1) := by
  refine vcl_as (L := [(1, 3), (0, x1), (0, x2), (0, x3), (1, 338), (9, 0)]) rfl ?_
  refine (rn_aload (pc := 0) (dd bL_addFold dL_addFold_0) rfl).trans ?_
  refine (rn_iconst (pc := 2) (dd bL_addFold dL_addFold_2) (by decide)).trans ?_
  refine (rn_aload_n (pc := 3) (dd bL_addFold dL_addFold_3) rfl).trans ?_
  refine (rn_iload_n (pc := 4) (dd bL_addFold dL_addFold_4) rfl).trans ?_
  refine (rn_iload_n (pc := 5) (dd bL_addFold dL_addFold_5) rfl).trans ?_
  refine (rn_iload_n (pc := 6) (dd bL_addFold dL_addFold_6) rfl).trans ?_
  refine (rg_virtual (pc := 7) (dd bL_addFold dL_addFold_7) rfl rfl (by decide) (kc := 33) rfl s (as := [(1, 3), (0, x1), (0, x2), (0, x3)]) rfl ⟨Nat.le_of_ble_eq_true rfl, Nat.le_of_ble_eq_true rfl, Nat.le_of_ble_eq_true rfl, Nat.le_of_ble_eq_true rfl⟩).trans ?_
  refine (vret_h2 e (x := (0, 12, 15, 13, "java/lang/IndexOutOfBoundsException")) (by decide +kernel) rfl (dd bL_addFold dL_addFold_15) (Nat.le_of_ble_eq_true rfl) rfl).trans ?_
  refine (rn_iconst (pc := 17) (dd bL_addFold dL_addFold_17) (by decide)).trans ?_
  exact rn_ireturn (pc := 18) (dd bL_addFold dL_addFold_18) (Or.inl rfl)
theorem Wx_addFold_2 {h h1 : vH} {x1 : Int} {x2 : Int} {x3 : Int} (s : h 0 3 0 = 33) (e : vcl mX12_addFold [(1, 3), (0, x1), (0, x2), (0, x3)] h = some (.inr "java/lang/IllegalArgumentException", h1)) : vcl mL_addFold [(1, 3), (0, x1), (0, x2), (0, x3), (1, 338)] h = some (.inl (some (0, 2)), h1) := by
  refine vcl_as (L := [(1, 3), (0, x1), (0, x2), (0, x3), (1, 338), (9, 0)]) rfl ?_
  refine (rn_aload (pc := 0) (dd bL_addFold dL_addFold_0) rfl).trans ?_
  refine (rn_iconst (pc := 2) (dd bL_addFold dL_addFold_2) (by decide)).trans ?_
  refine (rn_aload_n (pc := 3) (dd bL_addFold dL_addFold_3) rfl).trans ?_
  refine (rn_iload_n (pc := 4) (dd bL_addFold dL_addFold_4) rfl).trans ?_
  refine (rn_iload_n (pc := 5) (dd bL_addFold dL_addFold_5) rfl).trans ?_
  refine (rn_iload_n (pc := 6) (dd bL_addFold dL_addFold_6) rfl).trans ?_
  refine (rg_virtual (pc := 7) (dd bL_addFold dL_addFold_7) rfl rfl (by decide) (kc := 33) rfl s (as := [(1, 3), (0, x1), (0, x2), (0, x3)]) rfl ⟨Nat.le_of_ble_eq_true rfl, Nat.le_of_ble_eq_true rfl, Nat.le_of_ble_eq_true rfl, Nat.le_of_ble_eq_true rfl⟩).trans ?_
  refine (vret_h2 e (x := (0, 12, 19, 19, "java/lang/IllegalArgumentException")) (by decide +kernel) rfl (dd bL_addFold dL_addFold_19) (Nat.le_of_ble_eq_true rfl) rfl).trans ?_
  refine (rn_iconst (pc := 21) (dd bL_addFold dL_addFold_21) (by decide)).trans ?_
  exact rn_ireturn (pc := 22) (dd bL_addFold dL_addFold_22) (Or.inl rfl)
theorem Wx_addFold_3 {h h1 : vH} {x1 : Int} {x2 : Int} {x3 : Int} (s : h 0 3 0 = 33) (e : vcl mX12_addFold [(1, 3), (0, x1), (0, x2), (0, x3)] h = some (.inr "java/lang/IllegalStateException", h1)) : vcl mL_addFold [(1, 3), (0, x1), (0, x2), (0, x3), (1, 338)] h = some (.inl (some (0, 3)), h1) := by
  refine vcl_as (L := [(1, 3), (0, x1), (0, x2), (0, x3), (1, 338), (9, 0)]) rfl ?_
  refine (rn_aload (pc := 0) (dd bL_addFold dL_addFold_0) rfl).trans ?_
  refine (rn_iconst (pc := 2) (dd bL_addFold dL_addFold_2) (by decide)).trans ?_
  refine (rn_aload_n (pc := 3) (dd bL_addFold dL_addFold_3) rfl).trans ?_
  refine (rn_iload_n (pc := 4) (dd bL_addFold dL_addFold_4) rfl).trans ?_
  refine (rn_iload_n (pc := 5) (dd bL_addFold dL_addFold_5) rfl).trans ?_
  refine (rn_iload_n (pc := 6) (dd bL_addFold dL_addFold_6) rfl).trans ?_
  refine (rg_virtual (pc := 7) (dd bL_addFold dL_addFold_7) rfl rfl (by decide) (kc := 33) rfl s (as := [(1, 3), (0, x1), (0, x2), (0, x3)]) rfl ⟨Nat.le_of_ble_eq_true rfl, Nat.le_of_ble_eq_true rfl, Nat.le_of_ble_eq_true rfl, Nat.le_of_ble_eq_true rfl⟩).trans ?_
  refine (vret_h2 e (x := (0, 12, 23, 25, "java/lang/IllegalStateException")) (by decide +kernel) rfl (dd bL_addFold dL_addFold_23) (Nat.le_of_ble_eq_true rfl) rfl).trans ?_
  refine (rn_iconst (pc := 25) (dd bL_addFold dL_addFold_25) (by decide)).trans ?_
  exact rn_ireturn (pc := 26) (dd bL_addFold dL_addFold_26) (Or.inl rfl)
theorem Wr_addFold {n : Int} {h : vH} {x1 : Int} {x2 : Int} {x3 : Int} (J : JN n h) (hn : 0 ≤ n ∧ n ≤ 9000) (o1 : h 0 338 0 = 3) (o2 : h 1 338 0 = 1) : wrp n h (fun r => r) (vcl mL_addFold [(1, 3), (0, x1), (0, x2), (0, x3), (1, 338)] h) (fun a => vcl mX13_addFold [(1, 282), (0, x1), (0, x2), (0, x3)] a) := by
  have s : h 0 3 0 = 33 := J.1.1.1
  exact w_core (N_addFold J hn) o1 o2 (fun h1 r p q e => Wv_addFold s p q e) (fun h1 a nz e => by
    have c : kAf a x1 x2 x3 = 0 ∨ kAf a x1 x2 x3 = 1 ∨ kAf a x1 x2 x3 = 2 ∨ kAf a x1 x2 x3 = 3 := by
      unfold kAf
      repeat' split
      all_goals omega
    rcases c with c | c | c | c
    · exact absurd c nz
    · have e : vcl mX12_addFold [(1, 3), (0, x1), (0, x2), (0, x3)] h = some (.inr (e3 (kAf a x1 x2 x3)), h1) := e
      show vcl mL_addFold [(1, 3), (0, x1), (0, x2), (0, x3), (1, 338)] h = some (.inl (some (0, kAf a x1 x2 x3)), h1)
      rw [c] at e ⊢
      exact Wx_addFold_1 s e
    · have e : vcl mX12_addFold [(1, 3), (0, x1), (0, x2), (0, x3)] h = some (.inr (e3 (kAf a x1 x2 x3)), h1) := e
      show vcl mL_addFold [(1, 3), (0, x1), (0, x2), (0, x3), (1, 338)] h = some (.inl (some (0, kAf a x1 x2 x3)), h1)
      rw [c] at e ⊢
      exact Wx_addFold_2 s e
    · have e : vcl mX12_addFold [(1, 3), (0, x1), (0, x2), (0, x3)] h = some (.inr (e3 (kAf a x1 x2 x3)), h1) := e
      show vcl mL_addFold [(1, 3), (0, x1), (0, x2), (0, x3), (1, 338)] h = some (.inl (some (0, kAf a x1 x2 x3)), h1)
      rw [c] at e ⊢
      exact Wx_addFold_3 s e
  )
theorem bL_setClosed : vmB mL_setClosed = cL_setClosed := rfl
theorem Wv_setClosed {h h1 : vH} {x1 : Int} {x2 : Int} {x3 : Int} {r : Int} (s : h 0 3 0 = 33) (a : h1 0 338 0 = 3) (b : h1 1 338 0 = 1) (e : vcl mX12_setClosed [(1, 3), (0, x1), (0, x2), (0, x3)] h = some (.inl (some (0, r)), h1)) : vcl mL_setClosed [(1, 3), (0, x1), (0, x2), (0, x3), (1, 338)] h = some (.inl (some (0, 0)), vup h1 2 338 0 (if r = 0 then 0 else 1)) := by
  refine vcl_as (L := [(1, 3), (0, x1), (0, x2), (0, x3), (1, 338), (9, 0)]) rfl ?_
  refine (rn_aload (pc := 0) (dd bL_setClosed dL_setClosed_0) rfl).trans ?_
  refine (rn_iconst (pc := 2) (dd bL_setClosed dL_setClosed_2) (by decide)).trans ?_
  refine (rn_aload_n (pc := 3) (dd bL_setClosed dL_setClosed_3) rfl).trans ?_
  refine (rn_iload_n (pc := 4) (dd bL_setClosed dL_setClosed_4) rfl).trans ?_
  refine (rn_iload_n (pc := 5) (dd bL_setClosed dL_setClosed_5) rfl).trans ?_
  refine (rn_iload_n (pc := 6) (dd bL_setClosed dL_setClosed_6) rfl).trans ?_
  refine (rg_virtual (pc := 7) (dd bL_setClosed dL_setClosed_7) rfl rfl (by decide) (kc := 33) rfl s (as := [(1, 3), (0, x1), (0, x2), (0, x3)]) rfl ⟨Nat.le_of_ble_eq_true rfl, Nat.le_of_ble_eq_true rfl, Nat.le_of_ble_eq_true rfl, Nat.le_of_ble_eq_true rfl⟩).trans ?_
  refine (vret_v e).trans ?_
  refine (rn_if_eq (t := 17) (pc := 10) (dd bL_setClosed dL_setClosed_10) rfl).trans ?_
  by_cases c : r = 0
  · rw [if_pos c, if_pos c]
    refine (rn_lconst (pc := 17) (dd bL_setClosed dL_setClosed_17)).trans ?_
    refine (rg_lastore (pc := 18) (dd bL_setClosed dL_setClosed_18) a b (by decide) (by decide)).trans ?_
    refine (rn_goto (t := 30) (pc := 19) (dd bL_setClosed dL_setClosed_19) rfl).trans ?_
    refine (rn_iconst (pc := 30) (dd bL_setClosed dL_setClosed_30) (by decide)).trans ?_
    exact rn_ireturn (pc := 31) (dd bL_setClosed dL_setClosed_31) (Or.inl rfl)
  · rw [if_neg c, if_neg c]
    refine (rn_lconst (pc := 13) (dd bL_setClosed dL_setClosed_13)).trans ?_
    refine (rn_goto (t := 18) (pc := 14) (dd bL_setClosed dL_setClosed_14) rfl).trans ?_
    refine (rg_lastore (pc := 18) (dd bL_setClosed dL_setClosed_18) a b (by decide) (by decide)).trans ?_
    refine (rn_goto (t := 30) (pc := 19) (dd bL_setClosed dL_setClosed_19) rfl).trans ?_
    refine (rn_iconst (pc := 30) (dd bL_setClosed dL_setClosed_30) (by decide)).trans ?_
    exact rn_ireturn (pc := 31) (dd bL_setClosed dL_setClosed_31) (Or.inl rfl)
theorem Wx_setClosed_1 {h h1 : vH} {x1 : Int} {x2 : Int} {x3 : Int} (s : h 0 3 0 = 33) (e : vcl mX12_setClosed [(1, 3), (0, x1), (0, x2), (0, x3)] h = some (.inr "java/lang/IndexOutOfBoundsException", h1)) : vcl mL_setClosed [(1, 3), (0, x1), (0, x2), (0, x3), (1, 338)] h = some (.inl (some (0, 1)), h1) := by
  refine vcl_as (L := [(1, 3), (0, x1), (0, x2), (0, x3), (1, 338), (9, 0)]) rfl ?_
  refine (rn_aload (pc := 0) (dd bL_setClosed dL_setClosed_0) rfl).trans ?_
  refine (rn_iconst (pc := 2) (dd bL_setClosed dL_setClosed_2) (by decide)).trans ?_
  refine (rn_aload_n (pc := 3) (dd bL_setClosed dL_setClosed_3) rfl).trans ?_
  refine (rn_iload_n (pc := 4) (dd bL_setClosed dL_setClosed_4) rfl).trans ?_
  refine (rn_iload_n (pc := 5) (dd bL_setClosed dL_setClosed_5) rfl).trans ?_
  refine (rn_iload_n (pc := 6) (dd bL_setClosed dL_setClosed_6) rfl).trans ?_
  refine (rg_virtual (pc := 7) (dd bL_setClosed dL_setClosed_7) rfl rfl (by decide) (kc := 33) rfl s (as := [(1, 3), (0, x1), (0, x2), (0, x3)]) rfl ⟨Nat.le_of_ble_eq_true rfl, Nat.le_of_ble_eq_true rfl, Nat.le_of_ble_eq_true rfl, Nat.le_of_ble_eq_true rfl⟩).trans ?_
  refine (vret_h2 e (x := (0, 19, 22, 13, "java/lang/IndexOutOfBoundsException")) (by decide +kernel) rfl (dd bL_setClosed dL_setClosed_22) (Nat.le_of_ble_eq_true rfl) rfl).trans ?_
  refine (rn_iconst (pc := 24) (dd bL_setClosed dL_setClosed_24) (by decide)).trans ?_
  exact rn_ireturn (pc := 25) (dd bL_setClosed dL_setClosed_25) (Or.inl rfl)
theorem Wx_setClosed_2 {h h1 : vH} {x1 : Int} {x2 : Int} {x3 : Int} (s : h 0 3 0 = 33) (e : vcl mX12_setClosed [(1, 3), (0, x1), (0, x2), (0, x3)] h = some (.inr "java/lang/IllegalArgumentException", h1)) : vcl mL_setClosed [(1, 3), (0, x1), (0, x2), (0, x3), (1, 338)] h = some (.inl (some (0, 2)), h1) := by
  refine vcl_as (L := [(1, 3), (0, x1), (0, x2), (0, x3), (1, 338), (9, 0)]) rfl ?_
  refine (rn_aload (pc := 0) (dd bL_setClosed dL_setClosed_0) rfl).trans ?_
  refine (rn_iconst (pc := 2) (dd bL_setClosed dL_setClosed_2) (by decide)).trans ?_
  refine (rn_aload_n (pc := 3) (dd bL_setClosed dL_setClosed_3) rfl).trans ?_
  refine (rn_iload_n (pc := 4) (dd bL_setClosed dL_setClosed_4) rfl).trans ?_
  refine (rn_iload_n (pc := 5) (dd bL_setClosed dL_setClosed_5) rfl).trans ?_
  refine (rn_iload_n (pc := 6) (dd bL_setClosed dL_setClosed_6) rfl).trans ?_
  refine (rg_virtual (pc := 7) (dd bL_setClosed dL_setClosed_7) rfl rfl (by decide) (kc := 33) rfl s (as := [(1, 3), (0, x1), (0, x2), (0, x3)]) rfl ⟨Nat.le_of_ble_eq_true rfl, Nat.le_of_ble_eq_true rfl, Nat.le_of_ble_eq_true rfl, Nat.le_of_ble_eq_true rfl⟩).trans ?_
  refine (vret_h2 e (x := (0, 19, 26, 19, "java/lang/IllegalArgumentException")) (by decide +kernel) rfl (dd bL_setClosed dL_setClosed_26) (Nat.le_of_ble_eq_true rfl) rfl).trans ?_
  refine (rn_iconst (pc := 28) (dd bL_setClosed dL_setClosed_28) (by decide)).trans ?_
  exact rn_ireturn (pc := 29) (dd bL_setClosed dL_setClosed_29) (Or.inl rfl)
theorem Wr_setClosed {n : Int} {h : vH} {x1 : Int} {x2 : Int} {x3 : Int} (J : JN n h) (hv : x3 = 0 ∨ x3 = 1) (o1 : h 0 338 0 = 3) (o2 : h 1 338 0 = 1) : wrp n h (fun r => if r = 0 then 0 else 1) (vcl mL_setClosed [(1, 3), (0, x1), (0, x2), (0, x3), (1, 338)] h) (fun a => vcl mX13_setClosed [(1, 282), (0, x1), (0, x2), (0, x3)] a) := by
  have s : h 0 3 0 = 33 := J.1.1.1
  exact w_core (N_setClosed J hv) o1 o2 (fun h1 r p q e => Wv_setClosed s p q e) (fun h1 a nz e => by
    have c : kSl a x1 x2 = 0 ∨ kSl a x1 x2 = 1 ∨ kSl a x1 x2 = 2 := by
      unfold kSl
      repeat' split
      all_goals omega
    rcases c with c | c | c
    · exact absurd c nz
    · have e : vcl mX12_setClosed [(1, 3), (0, x1), (0, x2), (0, x3)] h = some (.inr (e3 (kSl a x1 x2)), h1) := e
      show vcl mL_setClosed [(1, 3), (0, x1), (0, x2), (0, x3), (1, 338)] h = some (.inl (some (0, kSl a x1 x2)), h1)
      rw [c] at e ⊢
      exact Wx_setClosed_1 s e
    · have e : vcl mX12_setClosed [(1, 3), (0, x1), (0, x2), (0, x3)] h = some (.inr (e3 (kSl a x1 x2)), h1) := e
      show vcl mL_setClosed [(1, 3), (0, x1), (0, x2), (0, x3), (1, 338)] h = some (.inl (some (0, kSl a x1 x2)), h1)
      rw [c] at e ⊢
      exact Wx_setClosed_2 s e
  )
theorem bL_rows : vmB mL_rows = cL_rows := rfl
theorem Wv_rows {h h1 : vH} {x1 : Int} {r : Int} (s : h 0 3 0 = 33) (a : h1 0 338 0 = 3) (b : h1 1 338 0 = 1) (e : vcl mX12_rows [(1, 3), (0, x1)] h = some (.inl (some (0, r)), h1)) : vcl mL_rows [(1, 3), (0, x1), (1, 338)] h = some (.inl (some (0, 0)), vup h1 2 338 0 r) := by
  refine vcl_as (L := [(1, 3), (0, x1), (1, 338), (9, 0)]) rfl ?_
  refine (rn_aload_n (pc := 0) (dd bL_rows dL_rows_0) rfl).trans ?_
  refine (rn_iconst (pc := 1) (dd bL_rows dL_rows_1) (by decide)).trans ?_
  refine (rn_aload_n (pc := 2) (dd bL_rows dL_rows_2) rfl).trans ?_
  refine (rn_iload_n (pc := 3) (dd bL_rows dL_rows_3) rfl).trans ?_
  refine (rg_virtual (pc := 4) (dd bL_rows dL_rows_4) rfl rfl (by decide) (kc := 33) rfl s (as := [(1, 3), (0, x1)]) rfl ⟨Nat.le_of_ble_eq_true rfl, Nat.le_of_ble_eq_true rfl, Nat.le_of_ble_eq_true rfl, Nat.le_of_ble_eq_true rfl⟩).trans ?_
  refine (vret_v e).trans ?_
  refine (rn_i2l (pc := 7) (dd bL_rows dL_rows_7)).trans ?_
  refine (rg_lastore (pc := 8) (dd bL_rows dL_rows_8) a b (by decide) (by decide)).trans ?_
  refine (rn_goto (t := 15) (pc := 9) (dd bL_rows dL_rows_9) rfl).trans ?_
  refine (rn_iconst (pc := 15) (dd bL_rows dL_rows_15) (by decide)).trans ?_
  exact rn_ireturn (pc := 16) (dd bL_rows dL_rows_16) (Or.inl rfl)
theorem Wx_rows_1 {h h1 : vH} {x1 : Int} (s : h 0 3 0 = 33) (e : vcl mX12_rows [(1, 3), (0, x1)] h = some (.inr "java/lang/IndexOutOfBoundsException", h1)) : vcl mL_rows [(1, 3), (0, x1), (1, 338)] h = some (.inl (some (0, 1)), h1) := by
  refine vcl_as (L := [(1, 3), (0, x1), (1, 338), (9, 0)]) rfl ?_
  refine (rn_aload_n (pc := 0) (dd bL_rows dL_rows_0) rfl).trans ?_
  refine (rn_iconst (pc := 1) (dd bL_rows dL_rows_1) (by decide)).trans ?_
  refine (rn_aload_n (pc := 2) (dd bL_rows dL_rows_2) rfl).trans ?_
  refine (rn_iload_n (pc := 3) (dd bL_rows dL_rows_3) rfl).trans ?_
  refine (rg_virtual (pc := 4) (dd bL_rows dL_rows_4) rfl rfl (by decide) (kc := 33) rfl s (as := [(1, 3), (0, x1)]) rfl ⟨Nat.le_of_ble_eq_true rfl, Nat.le_of_ble_eq_true rfl, Nat.le_of_ble_eq_true rfl, Nat.le_of_ble_eq_true rfl⟩).trans ?_
  refine (vret_h1 e (x := (0, 9, 12, 13, "java/lang/IndexOutOfBoundsException")) (by decide +kernel) rfl (dd bL_rows dL_rows_12) (Nat.le_of_ble_eq_true rfl) rfl).trans ?_
  refine (rn_iconst (pc := 13) (dd bL_rows dL_rows_13) (by decide)).trans ?_
  exact rn_ireturn (pc := 14) (dd bL_rows dL_rows_14) (Or.inl rfl)
theorem Wr_rows {n : Int} {h : vH} {x1 : Int} (J : JN n h) (o1 : h 0 338 0 = 3) (o2 : h 1 338 0 = 1) : wrp n h (fun r => r) (vcl mL_rows [(1, 3), (0, x1), (1, 338)] h) (fun a => vcl mX13_rows [(1, 282), (0, x1)] a) := by
  have s : h 0 3 0 = 33 := J.1.1.1
  exact w_core (N_rows J) o1 o2 (fun h1 r p q e => Wv_rows s p q e) (fun h1 a nz e => by
    have c : kPn x1 = 0 ∨ kPn x1 = 1 := by
      unfold kPn
      repeat' split
      all_goals omega
    rcases c with c | c
    · exact absurd c nz
    · have e : vcl mX12_rows [(1, 3), (0, x1)] h = some (.inr (e3 (kPn x1)), h1) := e
      show vcl mL_rows [(1, 3), (0, x1), (1, 338)] h = some (.inl (some (0, kPn x1)), h1)
      rw [c] at e ⊢
      exact Wx_rows_1 s e
  )
theorem bL_rowsOf : vmB mL_rowsOf = cL_rowsOf := rfl
theorem Wv_rowsOf {h h1 : vH} {x1 : Int} {x2 : Int} {r : Int} (s : h 0 3 0 = 33) (a : h1 0 338 0 = 3) (b : h1 1 338 0 = 1) (e : vcl mX12_rowsOf [(1, 3), (0, x1), (0, x2)] h = some (.inl (some (0, r)), h1)) : vcl mL_rowsOf [(1, 3), (0, x1), (0, x2), (1, 338)] h = some (.inl (some (0, 0)), vup h1 2 338 0 r) := by
  refine vcl_as (L := [(1, 3), (0, x1), (0, x2), (1, 338), (9, 0)]) rfl ?_
  refine (rn_aload_n (pc := 0) (dd bL_rowsOf dL_rowsOf_0) rfl).trans ?_
  refine (rn_iconst (pc := 1) (dd bL_rowsOf dL_rowsOf_1) (by decide)).trans ?_
  refine (rn_aload_n (pc := 2) (dd bL_rowsOf dL_rowsOf_2) rfl).trans ?_
  refine (rn_iload_n (pc := 3) (dd bL_rowsOf dL_rowsOf_3) rfl).trans ?_
  refine (rn_iload_n (pc := 4) (dd bL_rowsOf dL_rowsOf_4) rfl).trans ?_
  refine (rg_virtual (pc := 5) (dd bL_rowsOf dL_rowsOf_5) rfl rfl (by decide) (kc := 33) rfl s (as := [(1, 3), (0, x1), (0, x2)]) rfl ⟨Nat.le_of_ble_eq_true rfl, Nat.le_of_ble_eq_true rfl, Nat.le_of_ble_eq_true rfl, Nat.le_of_ble_eq_true rfl⟩).trans ?_
  refine (vret_v e).trans ?_
  refine (rn_i2l (pc := 8) (dd bL_rowsOf dL_rowsOf_8)).trans ?_
  refine (rg_lastore (pc := 9) (dd bL_rowsOf dL_rowsOf_9) a b (by decide) (by decide)).trans ?_
  refine (rn_goto (t := 17) (pc := 10) (dd bL_rowsOf dL_rowsOf_10) rfl).trans ?_
  refine (rn_iconst (pc := 17) (dd bL_rowsOf dL_rowsOf_17) (by decide)).trans ?_
  exact rn_ireturn (pc := 18) (dd bL_rowsOf dL_rowsOf_18) (Or.inl rfl)
theorem Wx_rowsOf_1 {h h1 : vH} {x1 : Int} {x2 : Int} (s : h 0 3 0 = 33) (e : vcl mX12_rowsOf [(1, 3), (0, x1), (0, x2)] h = some (.inr "java/lang/IndexOutOfBoundsException", h1)) : vcl mL_rowsOf [(1, 3), (0, x1), (0, x2), (1, 338)] h = some (.inl (some (0, 1)), h1) := by
  refine vcl_as (L := [(1, 3), (0, x1), (0, x2), (1, 338), (9, 0)]) rfl ?_
  refine (rn_aload_n (pc := 0) (dd bL_rowsOf dL_rowsOf_0) rfl).trans ?_
  refine (rn_iconst (pc := 1) (dd bL_rowsOf dL_rowsOf_1) (by decide)).trans ?_
  refine (rn_aload_n (pc := 2) (dd bL_rowsOf dL_rowsOf_2) rfl).trans ?_
  refine (rn_iload_n (pc := 3) (dd bL_rowsOf dL_rowsOf_3) rfl).trans ?_
  refine (rn_iload_n (pc := 4) (dd bL_rowsOf dL_rowsOf_4) rfl).trans ?_
  refine (rg_virtual (pc := 5) (dd bL_rowsOf dL_rowsOf_5) rfl rfl (by decide) (kc := 33) rfl s (as := [(1, 3), (0, x1), (0, x2)]) rfl ⟨Nat.le_of_ble_eq_true rfl, Nat.le_of_ble_eq_true rfl, Nat.le_of_ble_eq_true rfl, Nat.le_of_ble_eq_true rfl⟩).trans ?_
  refine (vret_h2 e (x := (0, 10, 13, 13, "java/lang/IndexOutOfBoundsException")) (by decide +kernel) rfl (dd bL_rowsOf dL_rowsOf_13) (Nat.le_of_ble_eq_true rfl) rfl).trans ?_
  refine (rn_iconst (pc := 15) (dd bL_rowsOf dL_rowsOf_15) (by decide)).trans ?_
  exact rn_ireturn (pc := 16) (dd bL_rowsOf dL_rowsOf_16) (Or.inl rfl)
theorem Wr_rowsOf {n : Int} {h : vH} {x1 : Int} {x2 : Int} (J : JN n h) (o1 : h 0 338 0 = 3) (o2 : h 1 338 0 = 1) : wrp n h (fun r => r) (vcl mL_rowsOf [(1, 3), (0, x1), (0, x2), (1, 338)] h) (fun a => vcl mX13_rowsOf [(1, 282), (0, x1), (0, x2)] a) := by
  have s : h 0 3 0 = 33 := J.1.1.1
  exact w_core (N_rowsOf J) o1 o2 (fun h1 r p q e => Wv_rowsOf s p q e) (fun h1 a nz e => by
    have c : kPL a x1 x2 = 0 ∨ kPL a x1 x2 = 1 := by
      unfold kPL
      repeat' split
      all_goals omega
    rcases c with c | c
    · exact absurd c nz
    · have e : vcl mX12_rowsOf [(1, 3), (0, x1), (0, x2)] h = some (.inr (e3 (kPL a x1 x2)), h1) := e
      show vcl mL_rowsOf [(1, 3), (0, x1), (0, x2), (1, 338)] h = some (.inl (some (0, kPL a x1 x2)), h1)
      rw [c] at e ⊢
      exact Wx_rowsOf_1 s e
  )
theorem bL_clusters : vmB mL_clusters = cL_clusters := rfl
theorem Wv_clusters {h h1 : vH} {x1 : Int} {x2 : Int} {r : Int} (s : h 0 3 0 = 33) (a : h1 0 338 0 = 3) (b : h1 1 338 0 = 1) (e : vcl mX12_clusters [(1, 3), (0, x1), (0, x2)] h = some (.inl (some (0, r)), h1)) : vcl mL_clusters [(1, 3), (0, x1), (0, x2), (1, 338)] h = some (.inl (some (0, 0)), vup h1 2 338 0 r) := by
  refine vcl_as (L := [(1, 3), (0, x1), (0, x2), (1, 338), (9, 0)]) rfl ?_
  refine (rn_aload_n (pc := 0) (dd bL_clusters dL_clusters_0) rfl).trans ?_
  refine (rn_iconst (pc := 1) (dd bL_clusters dL_clusters_1) (by decide)).trans ?_
  refine (rn_aload_n (pc := 2) (dd bL_clusters dL_clusters_2) rfl).trans ?_
  refine (rn_iload_n (pc := 3) (dd bL_clusters dL_clusters_3) rfl).trans ?_
  refine (rn_iload_n (pc := 4) (dd bL_clusters dL_clusters_4) rfl).trans ?_
  refine (rg_virtual (pc := 5) (dd bL_clusters dL_clusters_5) rfl rfl (by decide) (kc := 33) rfl s (as := [(1, 3), (0, x1), (0, x2)]) rfl ⟨Nat.le_of_ble_eq_true rfl, Nat.le_of_ble_eq_true rfl, Nat.le_of_ble_eq_true rfl, Nat.le_of_ble_eq_true rfl⟩).trans ?_
  refine (vret_v e).trans ?_
  refine (rn_i2l (pc := 8) (dd bL_clusters dL_clusters_8)).trans ?_
  refine (rg_lastore (pc := 9) (dd bL_clusters dL_clusters_9) a b (by decide) (by decide)).trans ?_
  refine (rn_goto (t := 17) (pc := 10) (dd bL_clusters dL_clusters_10) rfl).trans ?_
  refine (rn_iconst (pc := 17) (dd bL_clusters dL_clusters_17) (by decide)).trans ?_
  exact rn_ireturn (pc := 18) (dd bL_clusters dL_clusters_18) (Or.inl rfl)
theorem Wx_clusters_1 {h h1 : vH} {x1 : Int} {x2 : Int} (s : h 0 3 0 = 33) (e : vcl mX12_clusters [(1, 3), (0, x1), (0, x2)] h = some (.inr "java/lang/IndexOutOfBoundsException", h1)) : vcl mL_clusters [(1, 3), (0, x1), (0, x2), (1, 338)] h = some (.inl (some (0, 1)), h1) := by
  refine vcl_as (L := [(1, 3), (0, x1), (0, x2), (1, 338), (9, 0)]) rfl ?_
  refine (rn_aload_n (pc := 0) (dd bL_clusters dL_clusters_0) rfl).trans ?_
  refine (rn_iconst (pc := 1) (dd bL_clusters dL_clusters_1) (by decide)).trans ?_
  refine (rn_aload_n (pc := 2) (dd bL_clusters dL_clusters_2) rfl).trans ?_
  refine (rn_iload_n (pc := 3) (dd bL_clusters dL_clusters_3) rfl).trans ?_
  refine (rn_iload_n (pc := 4) (dd bL_clusters dL_clusters_4) rfl).trans ?_
  refine (rg_virtual (pc := 5) (dd bL_clusters dL_clusters_5) rfl rfl (by decide) (kc := 33) rfl s (as := [(1, 3), (0, x1), (0, x2)]) rfl ⟨Nat.le_of_ble_eq_true rfl, Nat.le_of_ble_eq_true rfl, Nat.le_of_ble_eq_true rfl, Nat.le_of_ble_eq_true rfl⟩).trans ?_
  refine (vret_h2 e (x := (0, 10, 13, 13, "java/lang/IndexOutOfBoundsException")) (by decide +kernel) rfl (dd bL_clusters dL_clusters_13) (Nat.le_of_ble_eq_true rfl) rfl).trans ?_
  refine (rn_iconst (pc := 15) (dd bL_clusters dL_clusters_15) (by decide)).trans ?_
  exact rn_ireturn (pc := 16) (dd bL_clusters dL_clusters_16) (Or.inl rfl)
theorem Wr_clusters {n : Int} {h : vH} {x1 : Int} {x2 : Int} (J : JN n h) (o1 : h 0 338 0 = 3) (o2 : h 1 338 0 = 1) : wrp n h (fun r => r) (vcl mL_clusters [(1, 3), (0, x1), (0, x2), (1, 338)] h) (fun a => vcl mX13_clusters [(1, 282), (0, x1), (0, x2)] a) := by
  have s : h 0 3 0 = 33 := J.1.1.1
  exact w_core (N_clusters J) o1 o2 (fun h1 r p q e => Wv_clusters s p q e) (fun h1 a nz e => by
    have c : kRw a x1 x2 = 0 ∨ kRw a x1 x2 = 1 := by
      unfold kRw
      repeat' split
      all_goals omega
    rcases c with c | c
    · exact absurd c nz
    · have e : vcl mX12_clusters [(1, 3), (0, x1), (0, x2)] h = some (.inr (e3 (kRw a x1 x2)), h1) := e
      show vcl mL_clusters [(1, 3), (0, x1), (0, x2), (1, 338)] h = some (.inl (some (0, kRw a x1 x2)), h1)
      rw [c] at e ⊢
      exact Wx_clusters_1 s e
  )
theorem bL_cell : vmB mL_cell = cL_cell := rfl
theorem Wv_cell {h h1 : vH} {x1 : Int} {x2 : Int} {x3 : Int} {x4 : Int} {r : Int} (s : h 0 3 0 = 33) (a : h1 0 338 0 = 3) (b : h1 1 338 0 = 1) (e : vcl mX12_cell [(1, 3), (0, x1), (0, x2), (0, x3), (0, x4)] h = some (.inl (some (0, r)), h1)) : vcl mL_cell [(1, 3), (0, x1), (0, x2), (0, x3), (0, x4), (1, 338)] h = some (.inl (some (0, 0)), vup h1 2 338 0 r) := by
  refine vcl_as (L := [(1, 3), (0, x1), (0, x2), (0, x3), (0, x4), (1, 338), (9, 0)]) rfl ?_
  refine (rn_aload (pc := 0) (dd bL_cell dL_cell_0) rfl).trans ?_
  refine (rn_iconst (pc := 2) (dd bL_cell dL_cell_2) (by decide)).trans ?_
  refine (rn_aload_n (pc := 3) (dd bL_cell dL_cell_3) rfl).trans ?_
  refine (rn_iload_n (pc := 4) (dd bL_cell dL_cell_4) rfl).trans ?_
  refine (rn_iload_n (pc := 5) (dd bL_cell dL_cell_5) rfl).trans ?_
  refine (rn_iload_n (pc := 6) (dd bL_cell dL_cell_6) rfl).trans ?_
  refine (rn_iload (pc := 7) (dd bL_cell dL_cell_7) rfl).trans ?_
  refine (rg_virtual (pc := 9) (dd bL_cell dL_cell_9) rfl rfl (by decide) (kc := 33) rfl s (as := [(1, 3), (0, x1), (0, x2), (0, x3), (0, x4)]) rfl ⟨Nat.le_of_ble_eq_true rfl, Nat.le_of_ble_eq_true rfl, Nat.le_of_ble_eq_true rfl, Nat.le_of_ble_eq_true rfl⟩).trans ?_
  refine (vret_v e).trans ?_
  refine (rn_i2l (pc := 12) (dd bL_cell dL_cell_12)).trans ?_
  refine (rg_lastore (pc := 13) (dd bL_cell dL_cell_13) a b (by decide) (by decide)).trans ?_
  refine (rn_goto (t := 25) (pc := 14) (dd bL_cell dL_cell_14) rfl).trans ?_
  refine (rn_iconst (pc := 25) (dd bL_cell dL_cell_25) (by decide)).trans ?_
  exact rn_ireturn (pc := 26) (dd bL_cell dL_cell_26) (Or.inl rfl)
theorem Wx_cell_1 {h h1 : vH} {x1 : Int} {x2 : Int} {x3 : Int} {x4 : Int} (s : h 0 3 0 = 33) (e : vcl mX12_cell [(1, 3), (0, x1), (0, x2), (0, x3), (0, x4)] h = some (.inr "java/lang/IndexOutOfBoundsException", h1)) : vcl mL_cell [(1, 3), (0, x1), (0, x2), (0, x3), (0, x4), (1, 338)] h = some (.inl (some (0, 1)), h1) := by
  refine vcl_as (L := [(1, 3), (0, x1), (0, x2), (0, x3), (0, x4), (1, 338), (9, 0)]) rfl ?_
  refine (rn_aload (pc := 0) (dd bL_cell dL_cell_0) rfl).trans ?_
  refine (rn_iconst (pc := 2) (dd bL_cell dL_cell_2) (by decide)).trans ?_
  refine (rn_aload_n (pc := 3) (dd bL_cell dL_cell_3) rfl).trans ?_
  refine (rn_iload_n (pc := 4) (dd bL_cell dL_cell_4) rfl).trans ?_
  refine (rn_iload_n (pc := 5) (dd bL_cell dL_cell_5) rfl).trans ?_
  refine (rn_iload_n (pc := 6) (dd bL_cell dL_cell_6) rfl).trans ?_
  refine (rn_iload (pc := 7) (dd bL_cell dL_cell_7) rfl).trans ?_
  refine (rg_virtual (pc := 9) (dd bL_cell dL_cell_9) rfl rfl (by decide) (kc := 33) rfl s (as := [(1, 3), (0, x1), (0, x2), (0, x3), (0, x4)]) rfl ⟨Nat.le_of_ble_eq_true rfl, Nat.le_of_ble_eq_true rfl, Nat.le_of_ble_eq_true rfl, Nat.le_of_ble_eq_true rfl⟩).trans ?_
  refine (vret_h2 e (x := (0, 14, 17, 13, "java/lang/IndexOutOfBoundsException")) (by decide +kernel) rfl (dd bL_cell dL_cell_17) (Nat.le_of_ble_eq_true rfl) rfl).trans ?_
  refine (rn_iconst (pc := 19) (dd bL_cell dL_cell_19) (by decide)).trans ?_
  exact rn_ireturn (pc := 20) (dd bL_cell dL_cell_20) (Or.inl rfl)
theorem Wx_cell_2 {h h1 : vH} {x1 : Int} {x2 : Int} {x3 : Int} {x4 : Int} (s : h 0 3 0 = 33) (e : vcl mX12_cell [(1, 3), (0, x1), (0, x2), (0, x3), (0, x4)] h = some (.inr "java/lang/IllegalArgumentException", h1)) : vcl mL_cell [(1, 3), (0, x1), (0, x2), (0, x3), (0, x4), (1, 338)] h = some (.inl (some (0, 2)), h1) := by
  refine vcl_as (L := [(1, 3), (0, x1), (0, x2), (0, x3), (0, x4), (1, 338), (9, 0)]) rfl ?_
  refine (rn_aload (pc := 0) (dd bL_cell dL_cell_0) rfl).trans ?_
  refine (rn_iconst (pc := 2) (dd bL_cell dL_cell_2) (by decide)).trans ?_
  refine (rn_aload_n (pc := 3) (dd bL_cell dL_cell_3) rfl).trans ?_
  refine (rn_iload_n (pc := 4) (dd bL_cell dL_cell_4) rfl).trans ?_
  refine (rn_iload_n (pc := 5) (dd bL_cell dL_cell_5) rfl).trans ?_
  refine (rn_iload_n (pc := 6) (dd bL_cell dL_cell_6) rfl).trans ?_
  refine (rn_iload (pc := 7) (dd bL_cell dL_cell_7) rfl).trans ?_
  refine (rg_virtual (pc := 9) (dd bL_cell dL_cell_9) rfl rfl (by decide) (kc := 33) rfl s (as := [(1, 3), (0, x1), (0, x2), (0, x3), (0, x4)]) rfl ⟨Nat.le_of_ble_eq_true rfl, Nat.le_of_ble_eq_true rfl, Nat.le_of_ble_eq_true rfl, Nat.le_of_ble_eq_true rfl⟩).trans ?_
  refine (vret_h2 e (x := (0, 14, 21, 19, "java/lang/IllegalArgumentException")) (by decide +kernel) rfl (dd bL_cell dL_cell_21) (Nat.le_of_ble_eq_true rfl) rfl).trans ?_
  refine (rn_iconst (pc := 23) (dd bL_cell dL_cell_23) (by decide)).trans ?_
  exact rn_ireturn (pc := 24) (dd bL_cell dL_cell_24) (Or.inl rfl)
theorem Wr_cell {n : Int} {h : vH} {x1 : Int} {x2 : Int} {x3 : Int} {x4 : Int} (J : JN n h) (hi : -2147483648 ≤ x3 ∧ x3 < 2147483648) (o1 : h 0 338 0 = 3) (o2 : h 1 338 0 = 1) : wrp n h (fun r => r) (vcl mL_cell [(1, 3), (0, x1), (0, x2), (0, x3), (0, x4), (1, 338)] h) (fun a => vcl mX13_cell [(1, 282), (0, x1), (0, x2), (0, x3), (0, x4)] a) := by
  have s : h 0 3 0 = 33 := J.1.1.1
  exact w_core (N_cell2 J hi) o1 o2 (fun h1 r p q e => Wv_cell s p q e) (fun h1 a nz e => by
    have c : kCe a x1 x2 x3 x4 = 0 ∨ kCe a x1 x2 x3 x4 = 1 ∨ kCe a x1 x2 x3 x4 = 2 := by
      unfold kCe
      repeat' split
      all_goals omega
    rcases c with c | c | c
    · exact absurd c nz
    · have e : vcl mX12_cell [(1, 3), (0, x1), (0, x2), (0, x3), (0, x4)] h = some (.inr (e3 (kCe a x1 x2 x3 x4)), h1) := e
      show vcl mL_cell [(1, 3), (0, x1), (0, x2), (0, x3), (0, x4), (1, 338)] h = some (.inl (some (0, kCe a x1 x2 x3 x4)), h1)
      rw [c] at e ⊢
      exact Wx_cell_1 s e
    · have e : vcl mX12_cell [(1, 3), (0, x1), (0, x2), (0, x3), (0, x4)] h = some (.inr (e3 (kCe a x1 x2 x3 x4)), h1) := e
      show vcl mL_cell [(1, 3), (0, x1), (0, x2), (0, x3), (0, x4), (1, 338)] h = some (.inl (some (0, kCe a x1 x2 x3 x4)), h1)
      rw [c] at e ⊢
      exact Wx_cell_2 s e
  )
theorem bL_rowAt : vmB mL_rowAt = cL_rowAt := rfl
theorem Wv_rowAt {h h1 : vH} {x1 : Int} {x2 : Int} {x3 : Int} {x4 : Int} {r : Int} (s : h 0 3 0 = 33) (a : h1 0 338 0 = 3) (b : h1 1 338 0 = 1) (e : vcl mX12_rowAt [(1, 3), (0, x1), (0, x2), (0, x3), (0, x4)] h = some (.inl (some (0, r)), h1)) : vcl mL_rowAt [(1, 3), (0, x1), (0, x2), (0, x3), (0, x4), (1, 338)] h = some (.inl (some (0, 0)), vup h1 2 338 0 r) := by
  refine vcl_as (L := [(1, 3), (0, x1), (0, x2), (0, x3), (0, x4), (1, 338), (9, 0)]) rfl ?_
  refine (rn_aload (pc := 0) (dd bL_rowAt dL_rowAt_0) rfl).trans ?_
  refine (rn_iconst (pc := 2) (dd bL_rowAt dL_rowAt_2) (by decide)).trans ?_
  refine (rn_aload_n (pc := 3) (dd bL_rowAt dL_rowAt_3) rfl).trans ?_
  refine (rn_iload_n (pc := 4) (dd bL_rowAt dL_rowAt_4) rfl).trans ?_
  refine (rn_iload_n (pc := 5) (dd bL_rowAt dL_rowAt_5) rfl).trans ?_
  refine (rn_iload_n (pc := 6) (dd bL_rowAt dL_rowAt_6) rfl).trans ?_
  refine (rn_iload (pc := 7) (dd bL_rowAt dL_rowAt_7) rfl).trans ?_
  refine (rg_virtual (pc := 9) (dd bL_rowAt dL_rowAt_9) rfl rfl (by decide) (kc := 33) rfl s (as := [(1, 3), (0, x1), (0, x2), (0, x3), (0, x4)]) rfl ⟨Nat.le_of_ble_eq_true rfl, Nat.le_of_ble_eq_true rfl, Nat.le_of_ble_eq_true rfl, Nat.le_of_ble_eq_true rfl⟩).trans ?_
  refine (vret_v e).trans ?_
  refine (rn_i2l (pc := 12) (dd bL_rowAt dL_rowAt_12)).trans ?_
  refine (rg_lastore (pc := 13) (dd bL_rowAt dL_rowAt_13) a b (by decide) (by decide)).trans ?_
  refine (rn_goto (t := 25) (pc := 14) (dd bL_rowAt dL_rowAt_14) rfl).trans ?_
  refine (rn_iconst (pc := 25) (dd bL_rowAt dL_rowAt_25) (by decide)).trans ?_
  exact rn_ireturn (pc := 26) (dd bL_rowAt dL_rowAt_26) (Or.inl rfl)
theorem Wx_rowAt_1 {h h1 : vH} {x1 : Int} {x2 : Int} {x3 : Int} {x4 : Int} (s : h 0 3 0 = 33) (e : vcl mX12_rowAt [(1, 3), (0, x1), (0, x2), (0, x3), (0, x4)] h = some (.inr "java/lang/IndexOutOfBoundsException", h1)) : vcl mL_rowAt [(1, 3), (0, x1), (0, x2), (0, x3), (0, x4), (1, 338)] h = some (.inl (some (0, 1)), h1) := by
  refine vcl_as (L := [(1, 3), (0, x1), (0, x2), (0, x3), (0, x4), (1, 338), (9, 0)]) rfl ?_
  refine (rn_aload (pc := 0) (dd bL_rowAt dL_rowAt_0) rfl).trans ?_
  refine (rn_iconst (pc := 2) (dd bL_rowAt dL_rowAt_2) (by decide)).trans ?_
  refine (rn_aload_n (pc := 3) (dd bL_rowAt dL_rowAt_3) rfl).trans ?_
  refine (rn_iload_n (pc := 4) (dd bL_rowAt dL_rowAt_4) rfl).trans ?_
  refine (rn_iload_n (pc := 5) (dd bL_rowAt dL_rowAt_5) rfl).trans ?_
  refine (rn_iload_n (pc := 6) (dd bL_rowAt dL_rowAt_6) rfl).trans ?_
  refine (rn_iload (pc := 7) (dd bL_rowAt dL_rowAt_7) rfl).trans ?_
  refine (rg_virtual (pc := 9) (dd bL_rowAt dL_rowAt_9) rfl rfl (by decide) (kc := 33) rfl s (as := [(1, 3), (0, x1), (0, x2), (0, x3), (0, x4)]) rfl ⟨Nat.le_of_ble_eq_true rfl, Nat.le_of_ble_eq_true rfl, Nat.le_of_ble_eq_true rfl, Nat.le_of_ble_eq_true rfl⟩).trans ?_
  refine (vret_h2 e (x := (0, 14, 17, 13, "java/lang/IndexOutOfBoundsException")) (by decide +kernel) rfl (dd bL_rowAt dL_rowAt_17) (Nat.le_of_ble_eq_true rfl) rfl).trans ?_
  refine (rn_iconst (pc := 19) (dd bL_rowAt dL_rowAt_19) (by decide)).trans ?_
  exact rn_ireturn (pc := 20) (dd bL_rowAt dL_rowAt_20) (Or.inl rfl)
theorem Wx_rowAt_2 {h h1 : vH} {x1 : Int} {x2 : Int} {x3 : Int} {x4 : Int} (s : h 0 3 0 = 33) (e : vcl mX12_rowAt [(1, 3), (0, x1), (0, x2), (0, x3), (0, x4)] h = some (.inr "java/lang/IllegalArgumentException", h1)) : vcl mL_rowAt [(1, 3), (0, x1), (0, x2), (0, x3), (0, x4), (1, 338)] h = some (.inl (some (0, 2)), h1) := by
  refine vcl_as (L := [(1, 3), (0, x1), (0, x2), (0, x3), (0, x4), (1, 338), (9, 0)]) rfl ?_
  refine (rn_aload (pc := 0) (dd bL_rowAt dL_rowAt_0) rfl).trans ?_
  refine (rn_iconst (pc := 2) (dd bL_rowAt dL_rowAt_2) (by decide)).trans ?_
  refine (rn_aload_n (pc := 3) (dd bL_rowAt dL_rowAt_3) rfl).trans ?_
  refine (rn_iload_n (pc := 4) (dd bL_rowAt dL_rowAt_4) rfl).trans ?_
  refine (rn_iload_n (pc := 5) (dd bL_rowAt dL_rowAt_5) rfl).trans ?_
  refine (rn_iload_n (pc := 6) (dd bL_rowAt dL_rowAt_6) rfl).trans ?_
  refine (rn_iload (pc := 7) (dd bL_rowAt dL_rowAt_7) rfl).trans ?_
  refine (rg_virtual (pc := 9) (dd bL_rowAt dL_rowAt_9) rfl rfl (by decide) (kc := 33) rfl s (as := [(1, 3), (0, x1), (0, x2), (0, x3), (0, x4)]) rfl ⟨Nat.le_of_ble_eq_true rfl, Nat.le_of_ble_eq_true rfl, Nat.le_of_ble_eq_true rfl, Nat.le_of_ble_eq_true rfl⟩).trans ?_
  refine (vret_h2 e (x := (0, 14, 21, 19, "java/lang/IllegalArgumentException")) (by decide +kernel) rfl (dd bL_rowAt dL_rowAt_21) (Nat.le_of_ble_eq_true rfl) rfl).trans ?_
  refine (rn_iconst (pc := 23) (dd bL_rowAt dL_rowAt_23) (by decide)).trans ?_
  exact rn_ireturn (pc := 24) (dd bL_rowAt dL_rowAt_24) (Or.inl rfl)
theorem Wr_rowAt {n : Int} {h : vH} {x1 : Int} {x2 : Int} {x3 : Int} {x4 : Int} (J : JN n h) (o1 : h 0 338 0 = 3) (o2 : h 1 338 0 = 1) : wrp n h (fun r => r) (vcl mL_rowAt [(1, 3), (0, x1), (0, x2), (0, x3), (0, x4), (1, 338)] h) (fun a => vcl mX13_rowAt [(1, 282), (0, x1), (0, x2), (0, x3), (0, x4)] a) := by
  have s : h 0 3 0 = 33 := J.1.1.1
  exact w_core (N_rowAt J) o1 o2 (fun h1 r p q e => Wv_rowAt s p q e) (fun h1 a nz e => by
    have c : kRA a x1 x2 x3 x4 = 0 ∨ kRA a x1 x2 x3 x4 = 1 ∨ kRA a x1 x2 x3 x4 = 2 := by
      unfold kRA
      repeat' split
      all_goals omega
    rcases c with c | c | c
    · exact absurd c nz
    · have e : vcl mX12_rowAt [(1, 3), (0, x1), (0, x2), (0, x3), (0, x4)] h = some (.inr (e3 (kRA a x1 x2 x3 x4)), h1) := e
      show vcl mL_rowAt [(1, 3), (0, x1), (0, x2), (0, x3), (0, x4), (1, 338)] h = some (.inl (some (0, kRA a x1 x2 x3 x4)), h1)
      rw [c] at e ⊢
      exact Wx_rowAt_1 s e
    · have e : vcl mX12_rowAt [(1, 3), (0, x1), (0, x2), (0, x3), (0, x4)] h = some (.inr (e3 (kRA a x1 x2 x3 x4)), h1) := e
      show vcl mL_rowAt [(1, 3), (0, x1), (0, x2), (0, x3), (0, x4), (1, 338)] h = some (.inl (some (0, kRA a x1 x2 x3 x4)), h1)
      rw [c] at e ⊢
      exact Wx_rowAt_2 s e
  )
theorem bL_columnAt : vmB mL_columnAt = cL_columnAt := rfl
theorem Wv_columnAt {h h1 : vH} {x1 : Int} {x2 : Int} {x3 : Int} {x4 : Int} {r : Int} (s : h 0 3 0 = 33) (a : h1 0 338 0 = 3) (b : h1 1 338 0 = 1) (e : vcl mX12_columnAt [(1, 3), (0, x1), (0, x2), (0, x3), (0, x4)] h = some (.inl (some (0, r)), h1)) : vcl mL_columnAt [(1, 3), (0, x1), (0, x2), (0, x3), (0, x4), (1, 338)] h = some (.inl (some (0, 0)), vup h1 2 338 0 r) := by
  refine vcl_as (L := [(1, 3), (0, x1), (0, x2), (0, x3), (0, x4), (1, 338), (9, 0)]) rfl ?_
  refine (rn_aload (pc := 0) (dd bL_columnAt dL_columnAt_0) rfl).trans ?_
  refine (rn_iconst (pc := 2) (dd bL_columnAt dL_columnAt_2) (by decide)).trans ?_
  refine (rn_aload_n (pc := 3) (dd bL_columnAt dL_columnAt_3) rfl).trans ?_
  refine (rn_iload_n (pc := 4) (dd bL_columnAt dL_columnAt_4) rfl).trans ?_
  refine (rn_iload_n (pc := 5) (dd bL_columnAt dL_columnAt_5) rfl).trans ?_
  refine (rn_iload_n (pc := 6) (dd bL_columnAt dL_columnAt_6) rfl).trans ?_
  refine (rn_iload (pc := 7) (dd bL_columnAt dL_columnAt_7) rfl).trans ?_
  refine (rg_virtual (pc := 9) (dd bL_columnAt dL_columnAt_9) rfl rfl (by decide) (kc := 33) rfl s (as := [(1, 3), (0, x1), (0, x2), (0, x3), (0, x4)]) rfl ⟨Nat.le_of_ble_eq_true rfl, Nat.le_of_ble_eq_true rfl, Nat.le_of_ble_eq_true rfl, Nat.le_of_ble_eq_true rfl⟩).trans ?_
  refine (vret_v e).trans ?_
  refine (rn_i2l (pc := 12) (dd bL_columnAt dL_columnAt_12)).trans ?_
  refine (rg_lastore (pc := 13) (dd bL_columnAt dL_columnAt_13) a b (by decide) (by decide)).trans ?_
  refine (rn_goto (t := 25) (pc := 14) (dd bL_columnAt dL_columnAt_14) rfl).trans ?_
  refine (rn_iconst (pc := 25) (dd bL_columnAt dL_columnAt_25) (by decide)).trans ?_
  exact rn_ireturn (pc := 26) (dd bL_columnAt dL_columnAt_26) (Or.inl rfl)
theorem Wx_columnAt_1 {h h1 : vH} {x1 : Int} {x2 : Int} {x3 : Int} {x4 : Int} (s : h 0 3 0 = 33) (e : vcl mX12_columnAt [(1, 3), (0, x1), (0, x2), (0, x3), (0, x4)] h = some (.inr "java/lang/IndexOutOfBoundsException", h1)) : vcl mL_columnAt [(1, 3), (0, x1), (0, x2), (0, x3), (0, x4), (1, 338)] h = some (.inl (some (0, 1)), h1) := by
  refine vcl_as (L := [(1, 3), (0, x1), (0, x2), (0, x3), (0, x4), (1, 338), (9, 0)]) rfl ?_
  refine (rn_aload (pc := 0) (dd bL_columnAt dL_columnAt_0) rfl).trans ?_
  refine (rn_iconst (pc := 2) (dd bL_columnAt dL_columnAt_2) (by decide)).trans ?_
  refine (rn_aload_n (pc := 3) (dd bL_columnAt dL_columnAt_3) rfl).trans ?_
  refine (rn_iload_n (pc := 4) (dd bL_columnAt dL_columnAt_4) rfl).trans ?_
  refine (rn_iload_n (pc := 5) (dd bL_columnAt dL_columnAt_5) rfl).trans ?_
  refine (rn_iload_n (pc := 6) (dd bL_columnAt dL_columnAt_6) rfl).trans ?_
  refine (rn_iload (pc := 7) (dd bL_columnAt dL_columnAt_7) rfl).trans ?_
  refine (rg_virtual (pc := 9) (dd bL_columnAt dL_columnAt_9) rfl rfl (by decide) (kc := 33) rfl s (as := [(1, 3), (0, x1), (0, x2), (0, x3), (0, x4)]) rfl ⟨Nat.le_of_ble_eq_true rfl, Nat.le_of_ble_eq_true rfl, Nat.le_of_ble_eq_true rfl, Nat.le_of_ble_eq_true rfl⟩).trans ?_
  refine (vret_h2 e (x := (0, 14, 17, 13, "java/lang/IndexOutOfBoundsException")) (by decide +kernel) rfl (dd bL_columnAt dL_columnAt_17) (Nat.le_of_ble_eq_true rfl) rfl).trans ?_
  refine (rn_iconst (pc := 19) (dd bL_columnAt dL_columnAt_19) (by decide)).trans ?_
  exact rn_ireturn (pc := 20) (dd bL_columnAt dL_columnAt_20) (Or.inl rfl)
theorem Wx_columnAt_2 {h h1 : vH} {x1 : Int} {x2 : Int} {x3 : Int} {x4 : Int} (s : h 0 3 0 = 33) (e : vcl mX12_columnAt [(1, 3), (0, x1), (0, x2), (0, x3), (0, x4)] h = some (.inr "java/lang/IllegalArgumentException", h1)) : vcl mL_columnAt [(1, 3), (0, x1), (0, x2), (0, x3), (0, x4), (1, 338)] h = some (.inl (some (0, 2)), h1) := by
  refine vcl_as (L := [(1, 3), (0, x1), (0, x2), (0, x3), (0, x4), (1, 338), (9, 0)]) rfl ?_
  refine (rn_aload (pc := 0) (dd bL_columnAt dL_columnAt_0) rfl).trans ?_
  refine (rn_iconst (pc := 2) (dd bL_columnAt dL_columnAt_2) (by decide)).trans ?_
  refine (rn_aload_n (pc := 3) (dd bL_columnAt dL_columnAt_3) rfl).trans ?_
  refine (rn_iload_n (pc := 4) (dd bL_columnAt dL_columnAt_4) rfl).trans ?_
  refine (rn_iload_n (pc := 5) (dd bL_columnAt dL_columnAt_5) rfl).trans ?_
  refine (rn_iload_n (pc := 6) (dd bL_columnAt dL_columnAt_6) rfl).trans ?_
  refine (rn_iload (pc := 7) (dd bL_columnAt dL_columnAt_7) rfl).trans ?_
  refine (rg_virtual (pc := 9) (dd bL_columnAt dL_columnAt_9) rfl rfl (by decide) (kc := 33) rfl s (as := [(1, 3), (0, x1), (0, x2), (0, x3), (0, x4)]) rfl ⟨Nat.le_of_ble_eq_true rfl, Nat.le_of_ble_eq_true rfl, Nat.le_of_ble_eq_true rfl, Nat.le_of_ble_eq_true rfl⟩).trans ?_
  refine (vret_h2 e (x := (0, 14, 21, 19, "java/lang/IllegalArgumentException")) (by decide +kernel) rfl (dd bL_columnAt dL_columnAt_21) (Nat.le_of_ble_eq_true rfl) rfl).trans ?_
  refine (rn_iconst (pc := 23) (dd bL_columnAt dL_columnAt_23) (by decide)).trans ?_
  exact rn_ireturn (pc := 24) (dd bL_columnAt dL_columnAt_24) (Or.inl rfl)
theorem Wr_columnAt {n : Int} {h : vH} {x1 : Int} {x2 : Int} {x3 : Int} {x4 : Int} (J : JN n h) (o1 : h 0 338 0 = 3) (o2 : h 1 338 0 = 1) : wrp n h (fun r => r) (vcl mL_columnAt [(1, 3), (0, x1), (0, x2), (0, x3), (0, x4), (1, 338)] h) (fun a => vcl mX13_columnAt [(1, 282), (0, x1), (0, x2), (0, x3), (0, x4)] a) := by
  have s : h 0 3 0 = 33 := J.1.1.1
  exact w_core (N_columnAt J) o1 o2 (fun h1 r p q e => Wv_columnAt s p q e) (fun h1 a nz e => by
    have c : kRA a x1 x2 x3 x4 = 0 ∨ kRA a x1 x2 x3 x4 = 1 ∨ kRA a x1 x2 x3 x4 = 2 := by
      unfold kRA
      repeat' split
      all_goals omega
    rcases c with c | c | c
    · exact absurd c nz
    · have e : vcl mX12_columnAt [(1, 3), (0, x1), (0, x2), (0, x3), (0, x4)] h = some (.inr (e3 (kRA a x1 x2 x3 x4)), h1) := e
      show vcl mL_columnAt [(1, 3), (0, x1), (0, x2), (0, x3), (0, x4), (1, 338)] h = some (.inl (some (0, kRA a x1 x2 x3 x4)), h1)
      rw [c] at e ⊢
      exact Wx_columnAt_1 s e
    · have e : vcl mX12_columnAt [(1, 3), (0, x1), (0, x2), (0, x3), (0, x4)] h = some (.inr (e3 (kRA a x1 x2 x3 x4)), h1) := e
      show vcl mL_columnAt [(1, 3), (0, x1), (0, x2), (0, x3), (0, x4), (1, 338)] h = some (.inl (some (0, kRA a x1 x2 x3 x4)), h1)
      rw [c] at e ⊢
      exact Wx_columnAt_2 s e
  )
theorem bL_lineAt : vmB mL_lineAt = cL_lineAt := rfl
theorem Wv_lineAt {h h1 : vH} {x1 : Int} {x2 : Int} {r : Int} (s : h 0 3 0 = 33) (a : h1 0 338 0 = 3) (b : h1 1 338 0 = 1) (e : vcl mX12_lineAt [(1, 3), (0, x1), (0, x2)] h = some (.inl (some (0, r)), h1)) : vcl mL_lineAt [(1, 3), (0, x1), (0, x2), (1, 338)] h = some (.inl (some (0, 0)), vup h1 2 338 0 r) := by
  refine vcl_as (L := [(1, 3), (0, x1), (0, x2), (1, 338), (9, 0)]) rfl ?_
  refine (rn_aload_n (pc := 0) (dd bL_lineAt dL_lineAt_0) rfl).trans ?_
  refine (rn_iconst (pc := 1) (dd bL_lineAt dL_lineAt_1) (by decide)).trans ?_
  refine (rn_aload_n (pc := 2) (dd bL_lineAt dL_lineAt_2) rfl).trans ?_
  refine (rn_iload_n (pc := 3) (dd bL_lineAt dL_lineAt_3) rfl).trans ?_
  refine (rn_iload_n (pc := 4) (dd bL_lineAt dL_lineAt_4) rfl).trans ?_
  refine (rg_virtual (pc := 5) (dd bL_lineAt dL_lineAt_5) rfl rfl (by decide) (kc := 33) rfl s (as := [(1, 3), (0, x1), (0, x2)]) rfl ⟨Nat.le_of_ble_eq_true rfl, Nat.le_of_ble_eq_true rfl, Nat.le_of_ble_eq_true rfl, Nat.le_of_ble_eq_true rfl⟩).trans ?_
  refine (vret_v e).trans ?_
  refine (rn_i2l (pc := 8) (dd bL_lineAt dL_lineAt_8)).trans ?_
  refine (rg_lastore (pc := 9) (dd bL_lineAt dL_lineAt_9) a b (by decide) (by decide)).trans ?_
  refine (rn_goto (t := 17) (pc := 10) (dd bL_lineAt dL_lineAt_10) rfl).trans ?_
  refine (rn_iconst (pc := 17) (dd bL_lineAt dL_lineAt_17) (by decide)).trans ?_
  exact rn_ireturn (pc := 18) (dd bL_lineAt dL_lineAt_18) (Or.inl rfl)
theorem Wx_lineAt_1 {h h1 : vH} {x1 : Int} {x2 : Int} (s : h 0 3 0 = 33) (e : vcl mX12_lineAt [(1, 3), (0, x1), (0, x2)] h = some (.inr "java/lang/IndexOutOfBoundsException", h1)) : vcl mL_lineAt [(1, 3), (0, x1), (0, x2), (1, 338)] h = some (.inl (some (0, 1)), h1) := by
  refine vcl_as (L := [(1, 3), (0, x1), (0, x2), (1, 338), (9, 0)]) rfl ?_
  refine (rn_aload_n (pc := 0) (dd bL_lineAt dL_lineAt_0) rfl).trans ?_
  refine (rn_iconst (pc := 1) (dd bL_lineAt dL_lineAt_1) (by decide)).trans ?_
  refine (rn_aload_n (pc := 2) (dd bL_lineAt dL_lineAt_2) rfl).trans ?_
  refine (rn_iload_n (pc := 3) (dd bL_lineAt dL_lineAt_3) rfl).trans ?_
  refine (rn_iload_n (pc := 4) (dd bL_lineAt dL_lineAt_4) rfl).trans ?_
  refine (rg_virtual (pc := 5) (dd bL_lineAt dL_lineAt_5) rfl rfl (by decide) (kc := 33) rfl s (as := [(1, 3), (0, x1), (0, x2)]) rfl ⟨Nat.le_of_ble_eq_true rfl, Nat.le_of_ble_eq_true rfl, Nat.le_of_ble_eq_true rfl, Nat.le_of_ble_eq_true rfl⟩).trans ?_
  refine (vret_h2 e (x := (0, 10, 13, 13, "java/lang/IndexOutOfBoundsException")) (by decide +kernel) rfl (dd bL_lineAt dL_lineAt_13) (Nat.le_of_ble_eq_true rfl) rfl).trans ?_
  refine (rn_iconst (pc := 15) (dd bL_lineAt dL_lineAt_15) (by decide)).trans ?_
  exact rn_ireturn (pc := 16) (dd bL_lineAt dL_lineAt_16) (Or.inl rfl)
theorem Wr_lineAt {n : Int} {h : vH} {x1 : Int} {x2 : Int} (J : JN n h) (o1 : h 0 338 0 = 3) (o2 : h 1 338 0 = 1) : wrp n h (fun r => r) (vcl mL_lineAt [(1, 3), (0, x1), (0, x2), (1, 338)] h) (fun a => vcl mX13_lineAt [(1, 282), (0, x1), (0, x2)] a) := by
  have s : h 0 3 0 = 33 := J.1.1.1
  exact w_core (N_lineAt J) o1 o2 (fun h1 r p q e => Wv_lineAt s p q e) (fun h1 a nz e => by
    have c : kRw a x1 x2 = 0 ∨ kRw a x1 x2 = 1 := by
      unfold kRw
      repeat' split
      all_goals omega
    rcases c with c | c
    · exact absurd c nz
    · have e : vcl mX12_lineAt [(1, 3), (0, x1), (0, x2)] h = some (.inr (e3 (kRw a x1 x2)), h1) := e
      show vcl mL_lineAt [(1, 3), (0, x1), (0, x2), (1, 338)] h = some (.inl (some (0, kRw a x1 x2)), h1)
      rw [c] at e ⊢
      exact Wx_lineAt_1 s e
  )
theorem bL_placeAt : vmB mL_placeAt = cL_placeAt := rfl
theorem Wv_placeAt {h h1 : vH} {x1 : Int} {x2 : Int} {x3 : Int} {r : Int} (s : h 0 3 0 = 33) (a : h1 0 338 0 = 3) (b : h1 1 338 0 = 1) (e : vcl mX12_placeAt [(1, 3), (0, x1), (0, x2), (0, x3)] h = some (.inl (some (0, r)), h1)) : vcl mL_placeAt [(1, 3), (0, x1), (0, x2), (0, x3), (1, 338)] h = some (.inl (some (0, 0)), vup h1 2 338 0 r) := by
  refine vcl_as (L := [(1, 3), (0, x1), (0, x2), (0, x3), (1, 338), (9, 0)]) rfl ?_
  refine (rn_aload (pc := 0) (dd bL_placeAt dL_placeAt_0) rfl).trans ?_
  refine (rn_iconst (pc := 2) (dd bL_placeAt dL_placeAt_2) (by decide)).trans ?_
  refine (rn_aload_n (pc := 3) (dd bL_placeAt dL_placeAt_3) rfl).trans ?_
  refine (rn_iload_n (pc := 4) (dd bL_placeAt dL_placeAt_4) rfl).trans ?_
  refine (rn_iload_n (pc := 5) (dd bL_placeAt dL_placeAt_5) rfl).trans ?_
  refine (rn_iload_n (pc := 6) (dd bL_placeAt dL_placeAt_6) rfl).trans ?_
  refine (rg_virtual (pc := 7) (dd bL_placeAt dL_placeAt_7) rfl rfl (by decide) (kc := 33) rfl s (as := [(1, 3), (0, x1), (0, x2), (0, x3)]) rfl ⟨Nat.le_of_ble_eq_true rfl, Nat.le_of_ble_eq_true rfl, Nat.le_of_ble_eq_true rfl, Nat.le_of_ble_eq_true rfl⟩).trans ?_
  refine (vret_v e).trans ?_
  refine (rn_i2l (pc := 10) (dd bL_placeAt dL_placeAt_10)).trans ?_
  refine (rg_lastore (pc := 11) (dd bL_placeAt dL_placeAt_11) a b (by decide) (by decide)).trans ?_
  refine (rn_goto (t := 23) (pc := 12) (dd bL_placeAt dL_placeAt_12) rfl).trans ?_
  refine (rn_iconst (pc := 23) (dd bL_placeAt dL_placeAt_23) (by decide)).trans ?_
  exact rn_ireturn (pc := 24) (dd bL_placeAt dL_placeAt_24) (Or.inl rfl)
theorem Wx_placeAt_1 {h h1 : vH} {x1 : Int} {x2 : Int} {x3 : Int} (s : h 0 3 0 = 33) (e : vcl mX12_placeAt [(1, 3), (0, x1), (0, x2), (0, x3)] h = some (.inr "java/lang/IndexOutOfBoundsException", h1)) : vcl mL_placeAt [(1, 3), (0, x1), (0, x2), (0, x3), (1, 338)] h = some (.inl (some (0, 1)), h1) := by
  refine vcl_as (L := [(1, 3), (0, x1), (0, x2), (0, x3), (1, 338), (9, 0)]) rfl ?_
  refine (rn_aload (pc := 0) (dd bL_placeAt dL_placeAt_0) rfl).trans ?_
  refine (rn_iconst (pc := 2) (dd bL_placeAt dL_placeAt_2) (by decide)).trans ?_
  refine (rn_aload_n (pc := 3) (dd bL_placeAt dL_placeAt_3) rfl).trans ?_
  refine (rn_iload_n (pc := 4) (dd bL_placeAt dL_placeAt_4) rfl).trans ?_
  refine (rn_iload_n (pc := 5) (dd bL_placeAt dL_placeAt_5) rfl).trans ?_
  refine (rn_iload_n (pc := 6) (dd bL_placeAt dL_placeAt_6) rfl).trans ?_
  refine (rg_virtual (pc := 7) (dd bL_placeAt dL_placeAt_7) rfl rfl (by decide) (kc := 33) rfl s (as := [(1, 3), (0, x1), (0, x2), (0, x3)]) rfl ⟨Nat.le_of_ble_eq_true rfl, Nat.le_of_ble_eq_true rfl, Nat.le_of_ble_eq_true rfl, Nat.le_of_ble_eq_true rfl⟩).trans ?_
  refine (vret_h2 e (x := (0, 12, 15, 13, "java/lang/IndexOutOfBoundsException")) (by decide +kernel) rfl (dd bL_placeAt dL_placeAt_15) (Nat.le_of_ble_eq_true rfl) rfl).trans ?_
  refine (rn_iconst (pc := 17) (dd bL_placeAt dL_placeAt_17) (by decide)).trans ?_
  exact rn_ireturn (pc := 18) (dd bL_placeAt dL_placeAt_18) (Or.inl rfl)
theorem Wx_placeAt_2 {h h1 : vH} {x1 : Int} {x2 : Int} {x3 : Int} (s : h 0 3 0 = 33) (e : vcl mX12_placeAt [(1, 3), (0, x1), (0, x2), (0, x3)] h = some (.inr "java/lang/IllegalArgumentException", h1)) : vcl mL_placeAt [(1, 3), (0, x1), (0, x2), (0, x3), (1, 338)] h = some (.inl (some (0, 2)), h1) := by
  refine vcl_as (L := [(1, 3), (0, x1), (0, x2), (0, x3), (1, 338), (9, 0)]) rfl ?_
  refine (rn_aload (pc := 0) (dd bL_placeAt dL_placeAt_0) rfl).trans ?_
  refine (rn_iconst (pc := 2) (dd bL_placeAt dL_placeAt_2) (by decide)).trans ?_
  refine (rn_aload_n (pc := 3) (dd bL_placeAt dL_placeAt_3) rfl).trans ?_
  refine (rn_iload_n (pc := 4) (dd bL_placeAt dL_placeAt_4) rfl).trans ?_
  refine (rn_iload_n (pc := 5) (dd bL_placeAt dL_placeAt_5) rfl).trans ?_
  refine (rn_iload_n (pc := 6) (dd bL_placeAt dL_placeAt_6) rfl).trans ?_
  refine (rg_virtual (pc := 7) (dd bL_placeAt dL_placeAt_7) rfl rfl (by decide) (kc := 33) rfl s (as := [(1, 3), (0, x1), (0, x2), (0, x3)]) rfl ⟨Nat.le_of_ble_eq_true rfl, Nat.le_of_ble_eq_true rfl, Nat.le_of_ble_eq_true rfl, Nat.le_of_ble_eq_true rfl⟩).trans ?_
  refine (vret_h2 e (x := (0, 12, 19, 19, "java/lang/IllegalArgumentException")) (by decide +kernel) rfl (dd bL_placeAt dL_placeAt_19) (Nat.le_of_ble_eq_true rfl) rfl).trans ?_
  refine (rn_iconst (pc := 21) (dd bL_placeAt dL_placeAt_21) (by decide)).trans ?_
  exact rn_ireturn (pc := 22) (dd bL_placeAt dL_placeAt_22) (Or.inl rfl)
theorem Wr_placeAt {n : Int} {h : vH} {x1 : Int} {x2 : Int} {x3 : Int} (J : JN n h) (o1 : h 0 338 0 = 3) (o2 : h 1 338 0 = 1) : wrp n h (fun r => r) (vcl mL_placeAt [(1, 3), (0, x1), (0, x2), (0, x3), (1, 338)] h) (fun a => vcl mX13_placeAt [(1, 282), (0, x1), (0, x2), (0, x3)] a) := by
  have s : h 0 3 0 = 33 := J.1.1.1
  exact w_core (N_placeAt J) o1 o2 (fun h1 r p q e => Wv_placeAt s p q e) (fun h1 a nz e => by
    have c : kPa a x1 x2 x3 = 0 ∨ kPa a x1 x2 x3 = 1 ∨ kPa a x1 x2 x3 = 2 := by
      unfold kPa
      repeat' split
      all_goals omega
    rcases c with c | c | c
    · exact absurd c nz
    · have e : vcl mX12_placeAt [(1, 3), (0, x1), (0, x2), (0, x3)] h = some (.inr (e3 (kPa a x1 x2 x3)), h1) := e
      show vcl mL_placeAt [(1, 3), (0, x1), (0, x2), (0, x3), (1, 338)] h = some (.inl (some (0, kPa a x1 x2 x3)), h1)
      rw [c] at e ⊢
      exact Wx_placeAt_1 s e
    · have e : vcl mX12_placeAt [(1, 3), (0, x1), (0, x2), (0, x3)] h = some (.inr (e3 (kPa a x1 x2 x3)), h1) := e
      show vcl mL_placeAt [(1, 3), (0, x1), (0, x2), (0, x3), (1, 338)] h = some (.inl (some (0, kPa a x1 x2 x3)), h1)
      rw [c] at e ⊢
      exact Wx_placeAt_2 s e
  )
theorem bL_marksAt : vmB mL_marksAt = cL_marksAt := rfl
theorem Wv_marksAt {h h1 : vH} {x1 : Int} {x2 : Int} {r : Int} (s : h 0 3 0 = 33) (a : h1 0 338 0 = 3) (b : h1 1 338 0 = 1) (e : vcl mX12_marksAt [(1, 3), (0, x1), (0, x2)] h = some (.inl (some (0, r)), h1)) : vcl mL_marksAt [(1, 3), (0, x1), (0, x2), (1, 338)] h = some (.inl (some (0, 0)), vup h1 2 338 0 r) := by
  refine vcl_as (L := [(1, 3), (0, x1), (0, x2), (1, 338), (9, 0)]) rfl ?_
  refine (rn_aload_n (pc := 0) (dd bL_marksAt dL_marksAt_0) rfl).trans ?_
  refine (rn_iconst (pc := 1) (dd bL_marksAt dL_marksAt_1) (by decide)).trans ?_
  refine (rn_aload_n (pc := 2) (dd bL_marksAt dL_marksAt_2) rfl).trans ?_
  refine (rn_iload_n (pc := 3) (dd bL_marksAt dL_marksAt_3) rfl).trans ?_
  refine (rn_iload_n (pc := 4) (dd bL_marksAt dL_marksAt_4) rfl).trans ?_
  refine (rg_virtual (pc := 5) (dd bL_marksAt dL_marksAt_5) rfl rfl (by decide) (kc := 33) rfl s (as := [(1, 3), (0, x1), (0, x2)]) rfl ⟨Nat.le_of_ble_eq_true rfl, Nat.le_of_ble_eq_true rfl, Nat.le_of_ble_eq_true rfl, Nat.le_of_ble_eq_true rfl⟩).trans ?_
  refine (vret_v e).trans ?_
  refine (rn_i2l (pc := 8) (dd bL_marksAt dL_marksAt_8)).trans ?_
  refine (rg_lastore (pc := 9) (dd bL_marksAt dL_marksAt_9) a b (by decide) (by decide)).trans ?_
  refine (rn_goto (t := 17) (pc := 10) (dd bL_marksAt dL_marksAt_10) rfl).trans ?_
  refine (rn_iconst (pc := 17) (dd bL_marksAt dL_marksAt_17) (by decide)).trans ?_
  exact rn_ireturn (pc := 18) (dd bL_marksAt dL_marksAt_18) (Or.inl rfl)
theorem Wx_marksAt_1 {h h1 : vH} {x1 : Int} {x2 : Int} (s : h 0 3 0 = 33) (e : vcl mX12_marksAt [(1, 3), (0, x1), (0, x2)] h = some (.inr "java/lang/IndexOutOfBoundsException", h1)) : vcl mL_marksAt [(1, 3), (0, x1), (0, x2), (1, 338)] h = some (.inl (some (0, 1)), h1) := by
  refine vcl_as (L := [(1, 3), (0, x1), (0, x2), (1, 338), (9, 0)]) rfl ?_
  refine (rn_aload_n (pc := 0) (dd bL_marksAt dL_marksAt_0) rfl).trans ?_
  refine (rn_iconst (pc := 1) (dd bL_marksAt dL_marksAt_1) (by decide)).trans ?_
  refine (rn_aload_n (pc := 2) (dd bL_marksAt dL_marksAt_2) rfl).trans ?_
  refine (rn_iload_n (pc := 3) (dd bL_marksAt dL_marksAt_3) rfl).trans ?_
  refine (rn_iload_n (pc := 4) (dd bL_marksAt dL_marksAt_4) rfl).trans ?_
  refine (rg_virtual (pc := 5) (dd bL_marksAt dL_marksAt_5) rfl rfl (by decide) (kc := 33) rfl s (as := [(1, 3), (0, x1), (0, x2)]) rfl ⟨Nat.le_of_ble_eq_true rfl, Nat.le_of_ble_eq_true rfl, Nat.le_of_ble_eq_true rfl, Nat.le_of_ble_eq_true rfl⟩).trans ?_
  refine (vret_h2 e (x := (0, 10, 13, 13, "java/lang/IndexOutOfBoundsException")) (by decide +kernel) rfl (dd bL_marksAt dL_marksAt_13) (Nat.le_of_ble_eq_true rfl) rfl).trans ?_
  refine (rn_iconst (pc := 15) (dd bL_marksAt dL_marksAt_15) (by decide)).trans ?_
  exact rn_ireturn (pc := 16) (dd bL_marksAt dL_marksAt_16) (Or.inl rfl)
theorem Wr_marksAt {n : Int} {h : vH} {x1 : Int} {x2 : Int} (J : JN n h) (o1 : h 0 338 0 = 3) (o2 : h 1 338 0 = 1) : wrp n h (fun r => r) (vcl mL_marksAt [(1, 3), (0, x1), (0, x2), (1, 338)] h) (fun a => vcl mX13_marksAt [(1, 282), (0, x1), (0, x2)] a) := by
  have s : h 0 3 0 = 33 := J.1.1.1
  exact w_core (N_marksAt J) o1 o2 (fun h1 r p q e => Wv_marksAt s p q e) (fun h1 a nz e => by
    have c : kRw a x1 x2 = 0 ∨ kRw a x1 x2 = 1 := by
      unfold kRw
      repeat' split
      all_goals omega
    rcases c with c | c
    · exact absurd c nz
    · have e : vcl mX12_marksAt [(1, 3), (0, x1), (0, x2)] h = some (.inr (e3 (kRw a x1 x2)), h1) := e
      show vcl mL_marksAt [(1, 3), (0, x1), (0, x2), (1, 338)] h = some (.inl (some (0, kRw a x1 x2)), h1)
      rw [c] at e ⊢
      exact Wx_marksAt_1 s e
  )
theorem bL_minimap : vmB mL_minimap = cL_minimap := rfl
theorem Wv_minimap {h h1 : vH} {x1 : Int} {x2 : Int} {r : Int} (s : h 0 3 0 = 33) (a : h1 0 338 0 = 3) (b : h1 1 338 0 = 1) (e : vcl mX12_minimap [(1, 3), (0, x1), (0, x2)] h = some (.inl (some (0, r)), h1)) : vcl mL_minimap [(1, 3), (0, x1), (0, x2), (1, 338)] h = some (.inl (some (0, 0)), vup h1 2 338 0 r) := by
  refine vcl_as (L := [(1, 3), (0, x1), (0, x2), (1, 338), (9, 0)]) rfl ?_
  refine (rn_aload_n (pc := 0) (dd bL_minimap dL_minimap_0) rfl).trans ?_
  refine (rn_iconst (pc := 1) (dd bL_minimap dL_minimap_1) (by decide)).trans ?_
  refine (rn_aload_n (pc := 2) (dd bL_minimap dL_minimap_2) rfl).trans ?_
  refine (rn_iload_n (pc := 3) (dd bL_minimap dL_minimap_3) rfl).trans ?_
  refine (rn_iload_n (pc := 4) (dd bL_minimap dL_minimap_4) rfl).trans ?_
  refine (rg_virtual (pc := 5) (dd bL_minimap dL_minimap_5) rfl rfl (by decide) (kc := 33) rfl s (as := [(1, 3), (0, x1), (0, x2)]) rfl ⟨Nat.le_of_ble_eq_true rfl, Nat.le_of_ble_eq_true rfl, Nat.le_of_ble_eq_true rfl, Nat.le_of_ble_eq_true rfl⟩).trans ?_
  refine (vret_v e).trans ?_
  refine (rn_i2l (pc := 8) (dd bL_minimap dL_minimap_8)).trans ?_
  refine (rg_lastore (pc := 9) (dd bL_minimap dL_minimap_9) a b (by decide) (by decide)).trans ?_
  refine (rn_goto (t := 21) (pc := 10) (dd bL_minimap dL_minimap_10) rfl).trans ?_
  refine (rn_iconst (pc := 21) (dd bL_minimap dL_minimap_21) (by decide)).trans ?_
  exact rn_ireturn (pc := 22) (dd bL_minimap dL_minimap_22) (Or.inl rfl)
theorem Wx_minimap_1 {h h1 : vH} {x1 : Int} {x2 : Int} (s : h 0 3 0 = 33) (e : vcl mX12_minimap [(1, 3), (0, x1), (0, x2)] h = some (.inr "java/lang/IndexOutOfBoundsException", h1)) : vcl mL_minimap [(1, 3), (0, x1), (0, x2), (1, 338)] h = some (.inl (some (0, 1)), h1) := by
  refine vcl_as (L := [(1, 3), (0, x1), (0, x2), (1, 338), (9, 0)]) rfl ?_
  refine (rn_aload_n (pc := 0) (dd bL_minimap dL_minimap_0) rfl).trans ?_
  refine (rn_iconst (pc := 1) (dd bL_minimap dL_minimap_1) (by decide)).trans ?_
  refine (rn_aload_n (pc := 2) (dd bL_minimap dL_minimap_2) rfl).trans ?_
  refine (rn_iload_n (pc := 3) (dd bL_minimap dL_minimap_3) rfl).trans ?_
  refine (rn_iload_n (pc := 4) (dd bL_minimap dL_minimap_4) rfl).trans ?_
  refine (rg_virtual (pc := 5) (dd bL_minimap dL_minimap_5) rfl rfl (by decide) (kc := 33) rfl s (as := [(1, 3), (0, x1), (0, x2)]) rfl ⟨Nat.le_of_ble_eq_true rfl, Nat.le_of_ble_eq_true rfl, Nat.le_of_ble_eq_true rfl, Nat.le_of_ble_eq_true rfl⟩).trans ?_
  refine (vret_h2 e (x := (0, 10, 13, 13, "java/lang/IndexOutOfBoundsException")) (by decide +kernel) rfl (dd bL_minimap dL_minimap_13) (Nat.le_of_ble_eq_true rfl) rfl).trans ?_
  refine (rn_iconst (pc := 15) (dd bL_minimap dL_minimap_15) (by decide)).trans ?_
  exact rn_ireturn (pc := 16) (dd bL_minimap dL_minimap_16) (Or.inl rfl)
theorem Wx_minimap_2 {h h1 : vH} {x1 : Int} {x2 : Int} (s : h 0 3 0 = 33) (e : vcl mX12_minimap [(1, 3), (0, x1), (0, x2)] h = some (.inr "java/lang/IllegalArgumentException", h1)) : vcl mL_minimap [(1, 3), (0, x1), (0, x2), (1, 338)] h = some (.inl (some (0, 2)), h1) := by
  refine vcl_as (L := [(1, 3), (0, x1), (0, x2), (1, 338), (9, 0)]) rfl ?_
  refine (rn_aload_n (pc := 0) (dd bL_minimap dL_minimap_0) rfl).trans ?_
  refine (rn_iconst (pc := 1) (dd bL_minimap dL_minimap_1) (by decide)).trans ?_
  refine (rn_aload_n (pc := 2) (dd bL_minimap dL_minimap_2) rfl).trans ?_
  refine (rn_iload_n (pc := 3) (dd bL_minimap dL_minimap_3) rfl).trans ?_
  refine (rn_iload_n (pc := 4) (dd bL_minimap dL_minimap_4) rfl).trans ?_
  refine (rg_virtual (pc := 5) (dd bL_minimap dL_minimap_5) rfl rfl (by decide) (kc := 33) rfl s (as := [(1, 3), (0, x1), (0, x2)]) rfl ⟨Nat.le_of_ble_eq_true rfl, Nat.le_of_ble_eq_true rfl, Nat.le_of_ble_eq_true rfl, Nat.le_of_ble_eq_true rfl⟩).trans ?_
  refine (vret_h2 e (x := (0, 10, 17, 19, "java/lang/IllegalArgumentException")) (by decide +kernel) rfl (dd bL_minimap dL_minimap_17) (Nat.le_of_ble_eq_true rfl) rfl).trans ?_
  refine (rn_iconst (pc := 19) (dd bL_minimap dL_minimap_19) (by decide)).trans ?_
  exact rn_ireturn (pc := 20) (dd bL_minimap dL_minimap_20) (Or.inl rfl)
theorem Wr_minimap {n : Int} {h : vH} {x1 : Int} {x2 : Int} (J : JN n h) (o1 : h 0 338 0 = 3) (o2 : h 1 338 0 = 1) : wrp n h (fun r => r) (vcl mL_minimap [(1, 3), (0, x1), (0, x2), (1, 338)] h) (fun a => vcl mX13_minimap [(1, 282), (0, x1), (0, x2)] a) := by
  have s : h 0 3 0 = 33 := J.1.1.1
  exact w_core (N_minimap J) o1 o2 (fun h1 r p q e => Wv_minimap s p q e) (fun h1 a nz e => by
    have c : kMm x1 x2 = 0 ∨ kMm x1 x2 = 1 ∨ kMm x1 x2 = 2 := by
      unfold kMm
      repeat' split
      all_goals omega
    rcases c with c | c | c
    · exact absurd c nz
    · have e : vcl mX12_minimap [(1, 3), (0, x1), (0, x2)] h = some (.inr (e3 (kMm x1 x2)), h1) := e
      show vcl mL_minimap [(1, 3), (0, x1), (0, x2), (1, 338)] h = some (.inl (some (0, kMm x1 x2)), h1)
      rw [c] at e ⊢
      exact Wx_minimap_1 s e
    · have e : vcl mX12_minimap [(1, 3), (0, x1), (0, x2)] h = some (.inr (e3 (kMm x1 x2)), h1) := e
      show vcl mL_minimap [(1, 3), (0, x1), (0, x2), (1, 338)] h = some (.inl (some (0, kMm x1 x2)), h1)
      rw [c] at e ⊢
      exact Wx_minimap_2 s e
  )
theorem bL_open : vmB mL_open = cL_open := rfl
theorem Wv_open {h h1 : vH} {x1 : Int} {r : Int} (s : h 0 3 0 = 33) (a : h1 0 338 0 = 3) (b : h1 1 338 0 = 1) (e : vcl mX12_open [(1, 3), (0, x1)] h = some (.inl (some (0, r)), h1)) : vcl mL_open [(1, 3), (0, x1), (1, 338)] h = some (.inl (some (0, 0)), vup h1 2 338 0 r) := by
  refine vcl_as (L := [(1, 3), (0, x1), (1, 338), (9, 0)]) rfl ?_
  refine (rn_aload_n (pc := 0) (dd bL_open dL_open_0) rfl).trans ?_
  refine (rn_iconst (pc := 1) (dd bL_open dL_open_1) (by decide)).trans ?_
  refine (rn_aload_n (pc := 2) (dd bL_open dL_open_2) rfl).trans ?_
  refine (rn_iload_n (pc := 3) (dd bL_open dL_open_3) rfl).trans ?_
  refine (rg_virtual (pc := 4) (dd bL_open dL_open_4) rfl rfl (by decide) (kc := 33) rfl s (as := [(1, 3), (0, x1)]) rfl ⟨Nat.le_of_ble_eq_true rfl, Nat.le_of_ble_eq_true rfl, Nat.le_of_ble_eq_true rfl, Nat.le_of_ble_eq_true rfl⟩).trans ?_
  refine (vret_v e).trans ?_
  refine (rn_i2l (pc := 7) (dd bL_open dL_open_7)).trans ?_
  refine (rg_lastore (pc := 8) (dd bL_open dL_open_8) a b (by decide) (by decide)).trans ?_
  refine (rn_goto (t := 18) (pc := 9) (dd bL_open dL_open_9) rfl).trans ?_
  refine (rn_iconst (pc := 18) (dd bL_open dL_open_18) (by decide)).trans ?_
  exact rn_ireturn (pc := 19) (dd bL_open dL_open_19) (Or.inl rfl)
theorem Wx_open_1 {h h1 : vH} {x1 : Int} (s : h 0 3 0 = 33) (e : vcl mX12_open [(1, 3), (0, x1)] h = some (.inr "java/lang/IndexOutOfBoundsException", h1)) : vcl mL_open [(1, 3), (0, x1), (1, 338)] h = some (.inl (some (0, 1)), h1) := by
  refine vcl_as (L := [(1, 3), (0, x1), (1, 338), (9, 0)]) rfl ?_
  refine (rn_aload_n (pc := 0) (dd bL_open dL_open_0) rfl).trans ?_
  refine (rn_iconst (pc := 1) (dd bL_open dL_open_1) (by decide)).trans ?_
  refine (rn_aload_n (pc := 2) (dd bL_open dL_open_2) rfl).trans ?_
  refine (rn_iload_n (pc := 3) (dd bL_open dL_open_3) rfl).trans ?_
  refine (rg_virtual (pc := 4) (dd bL_open dL_open_4) rfl rfl (by decide) (kc := 33) rfl s (as := [(1, 3), (0, x1)]) rfl ⟨Nat.le_of_ble_eq_true rfl, Nat.le_of_ble_eq_true rfl, Nat.le_of_ble_eq_true rfl, Nat.le_of_ble_eq_true rfl⟩).trans ?_
  refine (vret_h1 e (x := (0, 9, 12, 13, "java/lang/IndexOutOfBoundsException")) (by decide +kernel) rfl (dd bL_open dL_open_12) (Nat.le_of_ble_eq_true rfl) rfl).trans ?_
  refine (rn_iconst (pc := 13) (dd bL_open dL_open_13) (by decide)).trans ?_
  exact rn_ireturn (pc := 14) (dd bL_open dL_open_14) (Or.inl rfl)
theorem Wx_open_2 {h h1 : vH} {x1 : Int} (s : h 0 3 0 = 33) (e : vcl mX12_open [(1, 3), (0, x1)] h = some (.inr "java/lang/IllegalStateException", h1)) : vcl mL_open [(1, 3), (0, x1), (1, 338)] h = some (.inl (some (0, 2)), h1) := by
  refine vcl_as (L := [(1, 3), (0, x1), (1, 338), (9, 0)]) rfl ?_
  refine (rn_aload_n (pc := 0) (dd bL_open dL_open_0) rfl).trans ?_
  refine (rn_iconst (pc := 1) (dd bL_open dL_open_1) (by decide)).trans ?_
  refine (rn_aload_n (pc := 2) (dd bL_open dL_open_2) rfl).trans ?_
  refine (rn_iload_n (pc := 3) (dd bL_open dL_open_3) rfl).trans ?_
  refine (rg_virtual (pc := 4) (dd bL_open dL_open_4) rfl rfl (by decide) (kc := 33) rfl s (as := [(1, 3), (0, x1)]) rfl ⟨Nat.le_of_ble_eq_true rfl, Nat.le_of_ble_eq_true rfl, Nat.le_of_ble_eq_true rfl, Nat.le_of_ble_eq_true rfl⟩).trans ?_
  refine (vret_h1 e (x := (0, 9, 15, 25, "java/lang/IllegalStateException")) (by decide +kernel) rfl (dd bL_open dL_open_15) (Nat.le_of_ble_eq_true rfl) rfl).trans ?_
  refine (rn_iconst (pc := 16) (dd bL_open dL_open_16) (by decide)).trans ?_
  exact rn_ireturn (pc := 17) (dd bL_open dL_open_17) (Or.inl rfl)
theorem Wr_open {n : Int} {h : vH} {x1 : Int} (J : JN n h) (o1 : h 0 338 0 = 3) (o2 : h 1 338 0 = 1) : wrp n h (fun r => r) (vcl mL_open [(1, 3), (0, x1), (1, 338)] h) (fun a => vcl mX13_open [(1, 282), (0, x1)] a) := by
  have s : h 0 3 0 = 33 := J.1.1.1
  exact w_core (N_open J) o1 o2 (fun h1 r p q e => Wv_open s p q e) (fun h1 a nz e => by
    have c : kOp a x1 = 0 ∨ kOp a x1 = 1 ∨ kOp a x1 = 2 := by
      unfold kOp
      repeat' split
      all_goals omega
    rcases c with c | c | c
    · exact absurd c nz
    · have e : vcl mX12_open [(1, 3), (0, x1)] h = some (.inr (e2 (kOp a x1)), h1) := e
      show vcl mL_open [(1, 3), (0, x1), (1, 338)] h = some (.inl (some (0, kOp a x1)), h1)
      rw [c] at e ⊢
      exact Wx_open_1 s e
    · have e : vcl mX12_open [(1, 3), (0, x1)] h = some (.inr (e2 (kOp a x1)), h1) := e
      show vcl mL_open [(1, 3), (0, x1), (1, 338)] h = some (.inl (some (0, kOp a x1)), h1)
      rw [c] at e ⊢
      exact Wx_open_2 s e
  )
theorem bL_close : vmB mL_close = cL_close := rfl
theorem Wv_close {h h1 : vH} {x1 : Int} {r : Int} (s : h 0 3 0 = 33) (a : h1 0 338 0 = 3) (b : h1 1 338 0 = 1) (e : vcl mX12_close [(1, 3), (0, x1)] h = some (.inl (some (0, r)), h1)) : vcl mL_close [(1, 3), (0, x1), (1, 338)] h = some (.inl (some (0, 0)), vup h1 2 338 0 r) := by
  refine vcl_as (L := [(1, 3), (0, x1), (1, 338), (9, 0)]) rfl ?_
  refine (rn_aload_n (pc := 0) (dd bL_close dL_close_0) rfl).trans ?_
  refine (rn_iconst (pc := 1) (dd bL_close dL_close_1) (by decide)).trans ?_
  refine (rn_aload_n (pc := 2) (dd bL_close dL_close_2) rfl).trans ?_
  refine (rn_iload_n (pc := 3) (dd bL_close dL_close_3) rfl).trans ?_
  refine (rg_virtual (pc := 4) (dd bL_close dL_close_4) rfl rfl (by decide) (kc := 33) rfl s (as := [(1, 3), (0, x1)]) rfl ⟨Nat.le_of_ble_eq_true rfl, Nat.le_of_ble_eq_true rfl, Nat.le_of_ble_eq_true rfl, Nat.le_of_ble_eq_true rfl⟩).trans ?_
  refine (vret_v e).trans ?_
  refine (rn_i2l (pc := 7) (dd bL_close dL_close_7)).trans ?_
  refine (rg_lastore (pc := 8) (dd bL_close dL_close_8) a b (by decide) (by decide)).trans ?_
  refine (rn_goto (t := 18) (pc := 9) (dd bL_close dL_close_9) rfl).trans ?_
  refine (rn_iconst (pc := 18) (dd bL_close dL_close_18) (by decide)).trans ?_
  exact rn_ireturn (pc := 19) (dd bL_close dL_close_19) (Or.inl rfl)
theorem Wx_close_1 {h h1 : vH} {x1 : Int} (s : h 0 3 0 = 33) (e : vcl mX12_close [(1, 3), (0, x1)] h = some (.inr "java/lang/IndexOutOfBoundsException", h1)) : vcl mL_close [(1, 3), (0, x1), (1, 338)] h = some (.inl (some (0, 1)), h1) := by
  refine vcl_as (L := [(1, 3), (0, x1), (1, 338), (9, 0)]) rfl ?_
  refine (rn_aload_n (pc := 0) (dd bL_close dL_close_0) rfl).trans ?_
  refine (rn_iconst (pc := 1) (dd bL_close dL_close_1) (by decide)).trans ?_
  refine (rn_aload_n (pc := 2) (dd bL_close dL_close_2) rfl).trans ?_
  refine (rn_iload_n (pc := 3) (dd bL_close dL_close_3) rfl).trans ?_
  refine (rg_virtual (pc := 4) (dd bL_close dL_close_4) rfl rfl (by decide) (kc := 33) rfl s (as := [(1, 3), (0, x1)]) rfl ⟨Nat.le_of_ble_eq_true rfl, Nat.le_of_ble_eq_true rfl, Nat.le_of_ble_eq_true rfl, Nat.le_of_ble_eq_true rfl⟩).trans ?_
  refine (vret_h1 e (x := (0, 9, 12, 13, "java/lang/IndexOutOfBoundsException")) (by decide +kernel) rfl (dd bL_close dL_close_12) (Nat.le_of_ble_eq_true rfl) rfl).trans ?_
  refine (rn_iconst (pc := 13) (dd bL_close dL_close_13) (by decide)).trans ?_
  exact rn_ireturn (pc := 14) (dd bL_close dL_close_14) (Or.inl rfl)
theorem Wx_close_2 {h h1 : vH} {x1 : Int} (s : h 0 3 0 = 33) (e : vcl mX12_close [(1, 3), (0, x1)] h = some (.inr "java/lang/IllegalStateException", h1)) : vcl mL_close [(1, 3), (0, x1), (1, 338)] h = some (.inl (some (0, 2)), h1) := by
  refine vcl_as (L := [(1, 3), (0, x1), (1, 338), (9, 0)]) rfl ?_
  refine (rn_aload_n (pc := 0) (dd bL_close dL_close_0) rfl).trans ?_
  refine (rn_iconst (pc := 1) (dd bL_close dL_close_1) (by decide)).trans ?_
  refine (rn_aload_n (pc := 2) (dd bL_close dL_close_2) rfl).trans ?_
  refine (rn_iload_n (pc := 3) (dd bL_close dL_close_3) rfl).trans ?_
  refine (rg_virtual (pc := 4) (dd bL_close dL_close_4) rfl rfl (by decide) (kc := 33) rfl s (as := [(1, 3), (0, x1)]) rfl ⟨Nat.le_of_ble_eq_true rfl, Nat.le_of_ble_eq_true rfl, Nat.le_of_ble_eq_true rfl, Nat.le_of_ble_eq_true rfl⟩).trans ?_
  refine (vret_h1 e (x := (0, 9, 15, 25, "java/lang/IllegalStateException")) (by decide +kernel) rfl (dd bL_close dL_close_15) (Nat.le_of_ble_eq_true rfl) rfl).trans ?_
  refine (rn_iconst (pc := 16) (dd bL_close dL_close_16) (by decide)).trans ?_
  exact rn_ireturn (pc := 17) (dd bL_close dL_close_17) (Or.inl rfl)
theorem Wr_close {n : Int} {h : vH} {x1 : Int} (J : JN n h) (o1 : h 0 338 0 = 3) (o2 : h 1 338 0 = 1) : wrp n h (fun r => r) (vcl mL_close [(1, 3), (0, x1), (1, 338)] h) (fun a => vcl mX13_close [(1, 282), (0, x1)] a) := by
  have s : h 0 3 0 = 33 := J.1.1.1
  exact w_core (N_close J) o1 o2 (fun h1 r p q e => Wv_close s p q e) (fun h1 a nz e => by
    have c : kCs a x1 = 0 ∨ kCs a x1 = 1 ∨ kCs a x1 = 2 := by
      unfold kCs
      repeat' split
      all_goals omega
    rcases c with c | c | c
    · exact absurd c nz
    · have e : vcl mX12_close [(1, 3), (0, x1)] h = some (.inr (e2 (kCs a x1)), h1) := e
      show vcl mL_close [(1, 3), (0, x1), (1, 338)] h = some (.inl (some (0, kCs a x1)), h1)
      rw [c] at e ⊢
      exact Wx_close_1 s e
    · have e : vcl mX12_close [(1, 3), (0, x1)] h = some (.inr (e2 (kCs a x1)), h1) := e
      show vcl mL_close [(1, 3), (0, x1), (1, 338)] h = some (.inl (some (0, kCs a x1)), h1)
      rw [c] at e ⊢
      exact Wx_close_2 s e
  )
theorem bL_share : vmB mL_share = cL_share := rfl
theorem Wv_share {h h1 : vH} {x1 : Int} {x2 : Int} {x3 : Int} {x4 : Int} {r : Int} (s : h 0 3 0 = 33) (a : h1 0 338 0 = 3) (b : h1 1 338 0 = 1) (e : vcl mX12_share [(1, 3), (0, x1), (0, x2), (0, x3), (0, x4)] h = some (.inl (some (0, r)), h1)) : vcl mL_share [(1, 3), (0, x1), (0, x2), (0, x3), (0, x4), (1, 338)] h = some (.inl (some (0, 0)), vup h1 2 338 0 r) := by
  refine vcl_as (L := [(1, 3), (0, x1), (0, x2), (0, x3), (0, x4), (1, 338), (9, 0)]) rfl ?_
  refine (rn_aload (pc := 0) (dd bL_share dL_share_0) rfl).trans ?_
  refine (rn_iconst (pc := 2) (dd bL_share dL_share_2) (by decide)).trans ?_
  refine (rn_aload_n (pc := 3) (dd bL_share dL_share_3) rfl).trans ?_
  refine (rn_iload_n (pc := 4) (dd bL_share dL_share_4) rfl).trans ?_
  refine (rn_iload_n (pc := 5) (dd bL_share dL_share_5) rfl).trans ?_
  refine (rn_iload_n (pc := 6) (dd bL_share dL_share_6) rfl).trans ?_
  refine (rn_iload (pc := 7) (dd bL_share dL_share_7) rfl).trans ?_
  refine (rg_virtual (pc := 9) (dd bL_share dL_share_9) rfl rfl (by decide) (kc := 33) rfl s (as := [(1, 3), (0, x1), (0, x2), (0, x3), (0, x4)]) rfl ⟨Nat.le_of_ble_eq_true rfl, Nat.le_of_ble_eq_true rfl, Nat.le_of_ble_eq_true rfl, Nat.le_of_ble_eq_true rfl⟩).trans ?_
  refine (vret_v e).trans ?_
  refine (rn_i2l (pc := 12) (dd bL_share dL_share_12)).trans ?_
  refine (rg_lastore (pc := 13) (dd bL_share dL_share_13) a b (by decide) (by decide)).trans ?_
  refine (rn_goto (t := 29) (pc := 14) (dd bL_share dL_share_14) rfl).trans ?_
  refine (rn_iconst (pc := 29) (dd bL_share dL_share_29) (by decide)).trans ?_
  exact rn_ireturn (pc := 30) (dd bL_share dL_share_30) (Or.inl rfl)
theorem Wx_share_1 {h h1 : vH} {x1 : Int} {x2 : Int} {x3 : Int} {x4 : Int} (s : h 0 3 0 = 33) (e : vcl mX12_share [(1, 3), (0, x1), (0, x2), (0, x3), (0, x4)] h = some (.inr "java/lang/IndexOutOfBoundsException", h1)) : vcl mL_share [(1, 3), (0, x1), (0, x2), (0, x3), (0, x4), (1, 338)] h = some (.inl (some (0, 1)), h1) := by
  refine vcl_as (L := [(1, 3), (0, x1), (0, x2), (0, x3), (0, x4), (1, 338), (9, 0)]) rfl ?_
  refine (rn_aload (pc := 0) (dd bL_share dL_share_0) rfl).trans ?_
  refine (rn_iconst (pc := 2) (dd bL_share dL_share_2) (by decide)).trans ?_
  refine (rn_aload_n (pc := 3) (dd bL_share dL_share_3) rfl).trans ?_
  refine (rn_iload_n (pc := 4) (dd bL_share dL_share_4) rfl).trans ?_
  refine (rn_iload_n (pc := 5) (dd bL_share dL_share_5) rfl).trans ?_
  refine (rn_iload_n (pc := 6) (dd bL_share dL_share_6) rfl).trans ?_
  refine (rn_iload (pc := 7) (dd bL_share dL_share_7) rfl).trans ?_
  refine (rg_virtual (pc := 9) (dd bL_share dL_share_9) rfl rfl (by decide) (kc := 33) rfl s (as := [(1, 3), (0, x1), (0, x2), (0, x3), (0, x4)]) rfl ⟨Nat.le_of_ble_eq_true rfl, Nat.le_of_ble_eq_true rfl, Nat.le_of_ble_eq_true rfl, Nat.le_of_ble_eq_true rfl⟩).trans ?_
  refine (vret_h2 e (x := (0, 14, 17, 13, "java/lang/IndexOutOfBoundsException")) (by decide +kernel) rfl (dd bL_share dL_share_17) (Nat.le_of_ble_eq_true rfl) rfl).trans ?_
  refine (rn_iconst (pc := 19) (dd bL_share dL_share_19) (by decide)).trans ?_
  exact rn_ireturn (pc := 20) (dd bL_share dL_share_20) (Or.inl rfl)
theorem Wx_share_2 {h h1 : vH} {x1 : Int} {x2 : Int} {x3 : Int} {x4 : Int} (s : h 0 3 0 = 33) (e : vcl mX12_share [(1, 3), (0, x1), (0, x2), (0, x3), (0, x4)] h = some (.inr "java/lang/IllegalArgumentException", h1)) : vcl mL_share [(1, 3), (0, x1), (0, x2), (0, x3), (0, x4), (1, 338)] h = some (.inl (some (0, 2)), h1) := by
  refine vcl_as (L := [(1, 3), (0, x1), (0, x2), (0, x3), (0, x4), (1, 338), (9, 0)]) rfl ?_
  refine (rn_aload (pc := 0) (dd bL_share dL_share_0) rfl).trans ?_
  refine (rn_iconst (pc := 2) (dd bL_share dL_share_2) (by decide)).trans ?_
  refine (rn_aload_n (pc := 3) (dd bL_share dL_share_3) rfl).trans ?_
  refine (rn_iload_n (pc := 4) (dd bL_share dL_share_4) rfl).trans ?_
  refine (rn_iload_n (pc := 5) (dd bL_share dL_share_5) rfl).trans ?_
  refine (rn_iload_n (pc := 6) (dd bL_share dL_share_6) rfl).trans ?_
  refine (rn_iload (pc := 7) (dd bL_share dL_share_7) rfl).trans ?_
  refine (rg_virtual (pc := 9) (dd bL_share dL_share_9) rfl rfl (by decide) (kc := 33) rfl s (as := [(1, 3), (0, x1), (0, x2), (0, x3), (0, x4)]) rfl ⟨Nat.le_of_ble_eq_true rfl, Nat.le_of_ble_eq_true rfl, Nat.le_of_ble_eq_true rfl, Nat.le_of_ble_eq_true rfl⟩).trans ?_
  refine (vret_h2 e (x := (0, 14, 21, 19, "java/lang/IllegalArgumentException")) (by decide +kernel) rfl (dd bL_share dL_share_21) (Nat.le_of_ble_eq_true rfl) rfl).trans ?_
  refine (rn_iconst (pc := 23) (dd bL_share dL_share_23) (by decide)).trans ?_
  exact rn_ireturn (pc := 24) (dd bL_share dL_share_24) (Or.inl rfl)
theorem Wx_share_3 {h h1 : vH} {x1 : Int} {x2 : Int} {x3 : Int} {x4 : Int} (s : h 0 3 0 = 33) (e : vcl mX12_share [(1, 3), (0, x1), (0, x2), (0, x3), (0, x4)] h = some (.inr "java/lang/IllegalStateException", h1)) : vcl mL_share [(1, 3), (0, x1), (0, x2), (0, x3), (0, x4), (1, 338)] h = some (.inl (some (0, 3)), h1) := by
  refine vcl_as (L := [(1, 3), (0, x1), (0, x2), (0, x3), (0, x4), (1, 338), (9, 0)]) rfl ?_
  refine (rn_aload (pc := 0) (dd bL_share dL_share_0) rfl).trans ?_
  refine (rn_iconst (pc := 2) (dd bL_share dL_share_2) (by decide)).trans ?_
  refine (rn_aload_n (pc := 3) (dd bL_share dL_share_3) rfl).trans ?_
  refine (rn_iload_n (pc := 4) (dd bL_share dL_share_4) rfl).trans ?_
  refine (rn_iload_n (pc := 5) (dd bL_share dL_share_5) rfl).trans ?_
  refine (rn_iload_n (pc := 6) (dd bL_share dL_share_6) rfl).trans ?_
  refine (rn_iload (pc := 7) (dd bL_share dL_share_7) rfl).trans ?_
  refine (rg_virtual (pc := 9) (dd bL_share dL_share_9) rfl rfl (by decide) (kc := 33) rfl s (as := [(1, 3), (0, x1), (0, x2), (0, x3), (0, x4)]) rfl ⟨Nat.le_of_ble_eq_true rfl, Nat.le_of_ble_eq_true rfl, Nat.le_of_ble_eq_true rfl, Nat.le_of_ble_eq_true rfl⟩).trans ?_
  refine (vret_h2 e (x := (0, 14, 25, 25, "java/lang/IllegalStateException")) (by decide +kernel) rfl (dd bL_share dL_share_25) (Nat.le_of_ble_eq_true rfl) rfl).trans ?_
  refine (rn_iconst (pc := 27) (dd bL_share dL_share_27) (by decide)).trans ?_
  exact rn_ireturn (pc := 28) (dd bL_share dL_share_28) (Or.inl rfl)
theorem Wr_share {n : Int} {h : vH} {x1 : Int} {x2 : Int} {x3 : Int} {x4 : Int} (J : JN n h) (o1 : h 0 338 0 = 3) (o2 : h 1 338 0 = 1) : wrp n h (fun r => r) (vcl mL_share [(1, 3), (0, x1), (0, x2), (0, x3), (0, x4), (1, 338)] h) (fun a => vcl mX13_share [(1, 282), (0, x1), (0, x2), (0, x3), (0, x4)] a) := by
  have s : h 0 3 0 = 33 := J.1.1.1
  exact w_core (N_share J) o1 o2 (fun h1 r p q e => Wv_share s p q e) (fun h1 a nz e => by
    have c : kSh a x1 x2 x3 x4 = 0 ∨ kSh a x1 x2 x3 x4 = 1 ∨ kSh a x1 x2 x3 x4 = 2 ∨ kSh a x1 x2 x3 x4 = 3 := by
      unfold kSh
      repeat' split
      all_goals omega
    rcases c with c | c | c | c
    · exact absurd c nz
    · have e : vcl mX12_share [(1, 3), (0, x1), (0, x2), (0, x3), (0, x4)] h = some (.inr (e3 (kSh a x1 x2 x3 x4)), h1) := e
      show vcl mL_share [(1, 3), (0, x1), (0, x2), (0, x3), (0, x4), (1, 338)] h = some (.inl (some (0, kSh a x1 x2 x3 x4)), h1)
      rw [c] at e ⊢
      exact Wx_share_1 s e
    · have e : vcl mX12_share [(1, 3), (0, x1), (0, x2), (0, x3), (0, x4)] h = some (.inr (e3 (kSh a x1 x2 x3 x4)), h1) := e
      show vcl mL_share [(1, 3), (0, x1), (0, x2), (0, x3), (0, x4), (1, 338)] h = some (.inl (some (0, kSh a x1 x2 x3 x4)), h1)
      rw [c] at e ⊢
      exact Wx_share_2 s e
    · have e : vcl mX12_share [(1, 3), (0, x1), (0, x2), (0, x3), (0, x4)] h = some (.inr (e3 (kSh a x1 x2 x3 x4)), h1) := e
      show vcl mL_share [(1, 3), (0, x1), (0, x2), (0, x3), (0, x4), (1, 338)] h = some (.inl (some (0, kSh a x1 x2 x3 x4)), h1)
      rw [c] at e ⊢
      exact Wx_share_3 s e
  )
theorem bL_height : vmB mL_height = cL_height := rfl
theorem Wv_height {h h1 : vH} {x1 : Int} {r : Int} (s : h 0 3 0 = 33) (a : h1 0 338 0 = 3) (b : h1 1 338 0 = 1) (e : vcl mX12_height [(1, 3), (0, x1)] h = some (.inl (some (0, r)), h1)) : vcl mL_height [(1, 3), (0, x1), (1, 338)] h = some (.inl (some (0, 0)), vup h1 2 338 0 r) := by
  refine vcl_as (L := [(1, 3), (0, x1), (1, 338), (9, 0)]) rfl ?_
  refine (rn_aload_n (pc := 0) (dd bL_height dL_height_0) rfl).trans ?_
  refine (rn_iconst (pc := 1) (dd bL_height dL_height_1) (by decide)).trans ?_
  refine (rn_aload_n (pc := 2) (dd bL_height dL_height_2) rfl).trans ?_
  refine (rn_iload_n (pc := 3) (dd bL_height dL_height_3) rfl).trans ?_
  refine (rg_virtual (pc := 4) (dd bL_height dL_height_4) rfl rfl (by decide) (kc := 33) rfl s (as := [(1, 3), (0, x1)]) rfl ⟨Nat.le_of_ble_eq_true rfl, Nat.le_of_ble_eq_true rfl, Nat.le_of_ble_eq_true rfl, Nat.le_of_ble_eq_true rfl⟩).trans ?_
  refine (vret_v e).trans ?_
  refine (rn_i2l (pc := 7) (dd bL_height dL_height_7)).trans ?_
  refine (rg_lastore (pc := 8) (dd bL_height dL_height_8) a b (by decide) (by decide)).trans ?_
  refine (rn_goto (t := 15) (pc := 9) (dd bL_height dL_height_9) rfl).trans ?_
  refine (rn_iconst (pc := 15) (dd bL_height dL_height_15) (by decide)).trans ?_
  exact rn_ireturn (pc := 16) (dd bL_height dL_height_16) (Or.inl rfl)
theorem Wx_height_1 {h h1 : vH} {x1 : Int} (s : h 0 3 0 = 33) (e : vcl mX12_height [(1, 3), (0, x1)] h = some (.inr "java/lang/IndexOutOfBoundsException", h1)) : vcl mL_height [(1, 3), (0, x1), (1, 338)] h = some (.inl (some (0, 1)), h1) := by
  refine vcl_as (L := [(1, 3), (0, x1), (1, 338), (9, 0)]) rfl ?_
  refine (rn_aload_n (pc := 0) (dd bL_height dL_height_0) rfl).trans ?_
  refine (rn_iconst (pc := 1) (dd bL_height dL_height_1) (by decide)).trans ?_
  refine (rn_aload_n (pc := 2) (dd bL_height dL_height_2) rfl).trans ?_
  refine (rn_iload_n (pc := 3) (dd bL_height dL_height_3) rfl).trans ?_
  refine (rg_virtual (pc := 4) (dd bL_height dL_height_4) rfl rfl (by decide) (kc := 33) rfl s (as := [(1, 3), (0, x1)]) rfl ⟨Nat.le_of_ble_eq_true rfl, Nat.le_of_ble_eq_true rfl, Nat.le_of_ble_eq_true rfl, Nat.le_of_ble_eq_true rfl⟩).trans ?_
  refine (vret_h1 e (x := (0, 9, 12, 13, "java/lang/IndexOutOfBoundsException")) (by decide +kernel) rfl (dd bL_height dL_height_12) (Nat.le_of_ble_eq_true rfl) rfl).trans ?_
  refine (rn_iconst (pc := 13) (dd bL_height dL_height_13) (by decide)).trans ?_
  exact rn_ireturn (pc := 14) (dd bL_height dL_height_14) (Or.inl rfl)
theorem Wr_height {n : Int} {h : vH} {x1 : Int} (J : JN n h) (o1 : h 0 338 0 = 3) (o2 : h 1 338 0 = 1) : wrp n h (fun r => r) (vcl mL_height [(1, 3), (0, x1), (1, 338)] h) (fun a => vcl mX13_height [(1, 282), (0, x1)] a) := by
  have s : h 0 3 0 = 33 := J.1.1.1
  exact w_core (N_height J) o1 o2 (fun h1 r p q e => Wv_height s p q e) (fun h1 a nz e => by
    have c : kPn x1 = 0 ∨ kPn x1 = 1 := by
      unfold kPn
      repeat' split
      all_goals omega
    rcases c with c | c
    · exact absurd c nz
    · have e : vcl mX12_height [(1, 3), (0, x1)] h = some (.inr (e3 (kPn x1)), h1) := e
      show vcl mL_height [(1, 3), (0, x1), (1, 338)] h = some (.inl (some (0, kPn x1)), h1)
      rw [c] at e ⊢
      exact Wx_height_1 s e
  )
theorem bL_put : vmB mL_put = cL_put := rfl
theorem Wv_put {h h1 : vH} {x1 : Int} {x2 : Int} {x3 : Int} {r : Int} (s : h 0 3 0 = 33) (a : h1 0 338 0 = 3) (b : h1 1 338 0 = 1) (e : vcl mX12_put [(1, 3), (0, x1), (0, x2), (0, x3)] h = some (.inl (some (0, r)), h1)) : vcl mL_put [(1, 3), (0, x1), (0, x2), (0, x3), (1, 338)] h = some (.inl (some (0, 0)), vup h1 2 338 0 r) := by
  refine vcl_as (L := [(1, 3), (0, x1), (0, x2), (0, x3), (1, 338), (9, 0)]) rfl ?_
  refine (rn_aload (pc := 0) (dd bL_put dL_put_0) rfl).trans ?_
  refine (rn_iconst (pc := 2) (dd bL_put dL_put_2) (by decide)).trans ?_
  refine (rn_aload_n (pc := 3) (dd bL_put dL_put_3) rfl).trans ?_
  refine (rn_iload_n (pc := 4) (dd bL_put dL_put_4) rfl).trans ?_
  refine (rn_iload_n (pc := 5) (dd bL_put dL_put_5) rfl).trans ?_
  refine (rn_iload_n (pc := 6) (dd bL_put dL_put_6) rfl).trans ?_
  refine (rg_virtual (pc := 7) (dd bL_put dL_put_7) rfl rfl (by decide) (kc := 33) rfl s (as := [(1, 3), (0, x1), (0, x2), (0, x3)]) rfl ⟨Nat.le_of_ble_eq_true rfl, Nat.le_of_ble_eq_true rfl, Nat.le_of_ble_eq_true rfl, Nat.le_of_ble_eq_true rfl⟩).trans ?_
  refine (vret_v e).trans ?_
  refine (rn_i2l (pc := 10) (dd bL_put dL_put_10)).trans ?_
  refine (rg_lastore (pc := 11) (dd bL_put dL_put_11) a b (by decide) (by decide)).trans ?_
  refine (rn_goto (t := 27) (pc := 12) (dd bL_put dL_put_12) rfl).trans ?_
  refine (rn_iconst (pc := 27) (dd bL_put dL_put_27) (by decide)).trans ?_
  exact rn_ireturn (pc := 28) (dd bL_put dL_put_28) (Or.inl rfl)
theorem Wx_put_1 {h h1 : vH} {x1 : Int} {x2 : Int} {x3 : Int} (s : h 0 3 0 = 33) (e : vcl mX12_put [(1, 3), (0, x1), (0, x2), (0, x3)] h = some (.inr "java/lang/IndexOutOfBoundsException", h1)) : vcl mL_put [(1, 3), (0, x1), (0, x2), (0, x3), (1, 338)] h = some (.inl (some (0, 1)), h1) := by
  refine vcl_as (L := [(1, 3), (0, x1), (0, x2), (0, x3), (1, 338), (9, 0)]) rfl ?_
  refine (rn_aload (pc := 0) (dd bL_put dL_put_0) rfl).trans ?_
  refine (rn_iconst (pc := 2) (dd bL_put dL_put_2) (by decide)).trans ?_
  refine (rn_aload_n (pc := 3) (dd bL_put dL_put_3) rfl).trans ?_
  refine (rn_iload_n (pc := 4) (dd bL_put dL_put_4) rfl).trans ?_
  refine (rn_iload_n (pc := 5) (dd bL_put dL_put_5) rfl).trans ?_
  refine (rn_iload_n (pc := 6) (dd bL_put dL_put_6) rfl).trans ?_
  refine (rg_virtual (pc := 7) (dd bL_put dL_put_7) rfl rfl (by decide) (kc := 33) rfl s (as := [(1, 3), (0, x1), (0, x2), (0, x3)]) rfl ⟨Nat.le_of_ble_eq_true rfl, Nat.le_of_ble_eq_true rfl, Nat.le_of_ble_eq_true rfl, Nat.le_of_ble_eq_true rfl⟩).trans ?_
  refine (vret_h2 e (x := (0, 12, 15, 13, "java/lang/IndexOutOfBoundsException")) (by decide +kernel) rfl (dd bL_put dL_put_15) (Nat.le_of_ble_eq_true rfl) rfl).trans ?_
  refine (rn_iconst (pc := 17) (dd bL_put dL_put_17) (by decide)).trans ?_
  exact rn_ireturn (pc := 18) (dd bL_put dL_put_18) (Or.inl rfl)
theorem Wx_put_2 {h h1 : vH} {x1 : Int} {x2 : Int} {x3 : Int} (s : h 0 3 0 = 33) (e : vcl mX12_put [(1, 3), (0, x1), (0, x2), (0, x3)] h = some (.inr "java/lang/IllegalArgumentException", h1)) : vcl mL_put [(1, 3), (0, x1), (0, x2), (0, x3), (1, 338)] h = some (.inl (some (0, 2)), h1) := by
  refine vcl_as (L := [(1, 3), (0, x1), (0, x2), (0, x3), (1, 338), (9, 0)]) rfl ?_
  refine (rn_aload (pc := 0) (dd bL_put dL_put_0) rfl).trans ?_
  refine (rn_iconst (pc := 2) (dd bL_put dL_put_2) (by decide)).trans ?_
  refine (rn_aload_n (pc := 3) (dd bL_put dL_put_3) rfl).trans ?_
  refine (rn_iload_n (pc := 4) (dd bL_put dL_put_4) rfl).trans ?_
  refine (rn_iload_n (pc := 5) (dd bL_put dL_put_5) rfl).trans ?_
  refine (rn_iload_n (pc := 6) (dd bL_put dL_put_6) rfl).trans ?_
  refine (rg_virtual (pc := 7) (dd bL_put dL_put_7) rfl rfl (by decide) (kc := 33) rfl s (as := [(1, 3), (0, x1), (0, x2), (0, x3)]) rfl ⟨Nat.le_of_ble_eq_true rfl, Nat.le_of_ble_eq_true rfl, Nat.le_of_ble_eq_true rfl, Nat.le_of_ble_eq_true rfl⟩).trans ?_
  refine (vret_h2 e (x := (0, 12, 19, 19, "java/lang/IllegalArgumentException")) (by decide +kernel) rfl (dd bL_put dL_put_19) (Nat.le_of_ble_eq_true rfl) rfl).trans ?_
  refine (rn_iconst (pc := 21) (dd bL_put dL_put_21) (by decide)).trans ?_
  exact rn_ireturn (pc := 22) (dd bL_put dL_put_22) (Or.inl rfl)
theorem Wx_put_3 {h h1 : vH} {x1 : Int} {x2 : Int} {x3 : Int} (s : h 0 3 0 = 33) (e : vcl mX12_put [(1, 3), (0, x1), (0, x2), (0, x3)] h = some (.inr "java/lang/IllegalStateException", h1)) : vcl mL_put [(1, 3), (0, x1), (0, x2), (0, x3), (1, 338)] h = some (.inl (some (0, 3)), h1) := by
  refine vcl_as (L := [(1, 3), (0, x1), (0, x2), (0, x3), (1, 338), (9, 0)]) rfl ?_
  refine (rn_aload (pc := 0) (dd bL_put dL_put_0) rfl).trans ?_
  refine (rn_iconst (pc := 2) (dd bL_put dL_put_2) (by decide)).trans ?_
  refine (rn_aload_n (pc := 3) (dd bL_put dL_put_3) rfl).trans ?_
  refine (rn_iload_n (pc := 4) (dd bL_put dL_put_4) rfl).trans ?_
  refine (rn_iload_n (pc := 5) (dd bL_put dL_put_5) rfl).trans ?_
  refine (rn_iload_n (pc := 6) (dd bL_put dL_put_6) rfl).trans ?_
  refine (rg_virtual (pc := 7) (dd bL_put dL_put_7) rfl rfl (by decide) (kc := 33) rfl s (as := [(1, 3), (0, x1), (0, x2), (0, x3)]) rfl ⟨Nat.le_of_ble_eq_true rfl, Nat.le_of_ble_eq_true rfl, Nat.le_of_ble_eq_true rfl, Nat.le_of_ble_eq_true rfl⟩).trans ?_
  refine (vret_h2 e (x := (0, 12, 23, 25, "java/lang/IllegalStateException")) (by decide +kernel) rfl (dd bL_put dL_put_23) (Nat.le_of_ble_eq_true rfl) rfl).trans ?_
  refine (rn_iconst (pc := 25) (dd bL_put dL_put_25) (by decide)).trans ?_
  exact rn_ireturn (pc := 26) (dd bL_put dL_put_26) (Or.inl rfl)
theorem Wr_put {n : Int} {h : vH} {x1 : Int} {x2 : Int} {x3 : Int} (J : JN n h) (o1 : h 0 338 0 = 3) (o2 : h 1 338 0 = 1) : wrp n h (fun r => r) (vcl mL_put [(1, 3), (0, x1), (0, x2), (0, x3), (1, 338)] h) (fun a => vcl mX13_put [(1, 282), (0, x1), (0, x2), (0, x3)] a) := by
  have s : h 0 3 0 = 33 := J.1.1.1
  exact w_core (N_put J) o1 o2 (fun h1 r p q e => Wv_put s p q e) (fun h1 a nz e => by
    have c : kPu a x1 x2 x3 = 0 ∨ kPu a x1 x2 x3 = 1 ∨ kPu a x1 x2 x3 = 2 ∨ kPu a x1 x2 x3 = 3 := by
      unfold kPu
      repeat' split
      all_goals omega
    rcases c with c | c | c | c
    · exact absurd c nz
    · have e : vcl mX12_put [(1, 3), (0, x1), (0, x2), (0, x3)] h = some (.inr (e3 (kPu a x1 x2 x3)), h1) := e
      show vcl mL_put [(1, 3), (0, x1), (0, x2), (0, x3), (1, 338)] h = some (.inl (some (0, kPu a x1 x2 x3)), h1)
      rw [c] at e ⊢
      exact Wx_put_1 s e
    · have e : vcl mX12_put [(1, 3), (0, x1), (0, x2), (0, x3)] h = some (.inr (e3 (kPu a x1 x2 x3)), h1) := e
      show vcl mL_put [(1, 3), (0, x1), (0, x2), (0, x3), (1, 338)] h = some (.inl (some (0, kPu a x1 x2 x3)), h1)
      rw [c] at e ⊢
      exact Wx_put_2 s e
    · have e : vcl mX12_put [(1, 3), (0, x1), (0, x2), (0, x3)] h = some (.inr (e3 (kPu a x1 x2 x3)), h1) := e
      show vcl mL_put [(1, 3), (0, x1), (0, x2), (0, x3), (1, 338)] h = some (.inl (some (0, kPu a x1 x2 x3)), h1)
      rw [c] at e ⊢
      exact Wx_put_3 s e
  )
theorem bL_move : vmB mL_move = cL_move := rfl
theorem Wv_move {h h1 : vH} {x1 : Int} {x2 : Int} {r : Int} (s : h 0 3 0 = 33) (a : h1 0 338 0 = 3) (b : h1 1 338 0 = 1) (e : vcl mX12_move [(1, 3), (0, x1), (0, x2)] h = some (.inl (some (0, r)), h1)) : vcl mL_move [(1, 3), (0, x1), (0, x2), (1, 338)] h = some (.inl (some (0, 0)), vup h1 2 338 0 (if r = 0 then 0 else 1)) := by
  refine vcl_as (L := [(1, 3), (0, x1), (0, x2), (1, 338), (9, 0)]) rfl ?_
  refine (rn_aload_n (pc := 0) (dd bL_move dL_move_0) rfl).trans ?_
  refine (rn_iconst (pc := 1) (dd bL_move dL_move_1) (by decide)).trans ?_
  refine (rn_aload_n (pc := 2) (dd bL_move dL_move_2) rfl).trans ?_
  refine (rn_iload_n (pc := 3) (dd bL_move dL_move_3) rfl).trans ?_
  refine (rn_iload_n (pc := 4) (dd bL_move dL_move_4) rfl).trans ?_
  refine (rg_virtual (pc := 5) (dd bL_move dL_move_5) rfl rfl (by decide) (kc := 33) rfl s (as := [(1, 3), (0, x1), (0, x2)]) rfl ⟨Nat.le_of_ble_eq_true rfl, Nat.le_of_ble_eq_true rfl, Nat.le_of_ble_eq_true rfl, Nat.le_of_ble_eq_true rfl⟩).trans ?_
  refine (vret_v e).trans ?_
  refine (rn_if_eq (t := 15) (pc := 8) (dd bL_move dL_move_8) rfl).trans ?_
  by_cases c : r = 0
  · rw [if_pos c, if_pos c]
    refine (rn_lconst (pc := 15) (dd bL_move dL_move_15)).trans ?_
    refine (rg_lastore (pc := 16) (dd bL_move dL_move_16) a b (by decide) (by decide)).trans ?_
    refine (rn_goto (t := 32) (pc := 17) (dd bL_move dL_move_17) rfl).trans ?_
    refine (rn_iconst (pc := 32) (dd bL_move dL_move_32) (by decide)).trans ?_
    exact rn_ireturn (pc := 33) (dd bL_move dL_move_33) (Or.inl rfl)
  · rw [if_neg c, if_neg c]
    refine (rn_lconst (pc := 11) (dd bL_move dL_move_11)).trans ?_
    refine (rn_goto (t := 16) (pc := 12) (dd bL_move dL_move_12) rfl).trans ?_
    refine (rg_lastore (pc := 16) (dd bL_move dL_move_16) a b (by decide) (by decide)).trans ?_
    refine (rn_goto (t := 32) (pc := 17) (dd bL_move dL_move_17) rfl).trans ?_
    refine (rn_iconst (pc := 32) (dd bL_move dL_move_32) (by decide)).trans ?_
    exact rn_ireturn (pc := 33) (dd bL_move dL_move_33) (Or.inl rfl)
theorem Wx_move_1 {h h1 : vH} {x1 : Int} {x2 : Int} (s : h 0 3 0 = 33) (e : vcl mX12_move [(1, 3), (0, x1), (0, x2)] h = some (.inr "java/lang/IndexOutOfBoundsException", h1)) : vcl mL_move [(1, 3), (0, x1), (0, x2), (1, 338)] h = some (.inl (some (0, 1)), h1) := by
  refine vcl_as (L := [(1, 3), (0, x1), (0, x2), (1, 338), (9, 0)]) rfl ?_
  refine (rn_aload_n (pc := 0) (dd bL_move dL_move_0) rfl).trans ?_
  refine (rn_iconst (pc := 1) (dd bL_move dL_move_1) (by decide)).trans ?_
  refine (rn_aload_n (pc := 2) (dd bL_move dL_move_2) rfl).trans ?_
  refine (rn_iload_n (pc := 3) (dd bL_move dL_move_3) rfl).trans ?_
  refine (rn_iload_n (pc := 4) (dd bL_move dL_move_4) rfl).trans ?_
  refine (rg_virtual (pc := 5) (dd bL_move dL_move_5) rfl rfl (by decide) (kc := 33) rfl s (as := [(1, 3), (0, x1), (0, x2)]) rfl ⟨Nat.le_of_ble_eq_true rfl, Nat.le_of_ble_eq_true rfl, Nat.le_of_ble_eq_true rfl, Nat.le_of_ble_eq_true rfl⟩).trans ?_
  refine (vret_h2 e (x := (0, 17, 20, 13, "java/lang/IndexOutOfBoundsException")) (by decide +kernel) rfl (dd bL_move dL_move_20) (Nat.le_of_ble_eq_true rfl) rfl).trans ?_
  refine (rn_iconst (pc := 22) (dd bL_move dL_move_22) (by decide)).trans ?_
  exact rn_ireturn (pc := 23) (dd bL_move dL_move_23) (Or.inl rfl)
theorem Wx_move_2 {h h1 : vH} {x1 : Int} {x2 : Int} (s : h 0 3 0 = 33) (e : vcl mX12_move [(1, 3), (0, x1), (0, x2)] h = some (.inr "java/lang/IllegalArgumentException", h1)) : vcl mL_move [(1, 3), (0, x1), (0, x2), (1, 338)] h = some (.inl (some (0, 2)), h1) := by
  refine vcl_as (L := [(1, 3), (0, x1), (0, x2), (1, 338), (9, 0)]) rfl ?_
  refine (rn_aload_n (pc := 0) (dd bL_move dL_move_0) rfl).trans ?_
  refine (rn_iconst (pc := 1) (dd bL_move dL_move_1) (by decide)).trans ?_
  refine (rn_aload_n (pc := 2) (dd bL_move dL_move_2) rfl).trans ?_
  refine (rn_iload_n (pc := 3) (dd bL_move dL_move_3) rfl).trans ?_
  refine (rn_iload_n (pc := 4) (dd bL_move dL_move_4) rfl).trans ?_
  refine (rg_virtual (pc := 5) (dd bL_move dL_move_5) rfl rfl (by decide) (kc := 33) rfl s (as := [(1, 3), (0, x1), (0, x2)]) rfl ⟨Nat.le_of_ble_eq_true rfl, Nat.le_of_ble_eq_true rfl, Nat.le_of_ble_eq_true rfl, Nat.le_of_ble_eq_true rfl⟩).trans ?_
  refine (vret_h2 e (x := (0, 17, 24, 19, "java/lang/IllegalArgumentException")) (by decide +kernel) rfl (dd bL_move dL_move_24) (Nat.le_of_ble_eq_true rfl) rfl).trans ?_
  refine (rn_iconst (pc := 26) (dd bL_move dL_move_26) (by decide)).trans ?_
  exact rn_ireturn (pc := 27) (dd bL_move dL_move_27) (Or.inl rfl)
theorem Wx_move_3 {h h1 : vH} {x1 : Int} {x2 : Int} (s : h 0 3 0 = 33) (e : vcl mX12_move [(1, 3), (0, x1), (0, x2)] h = some (.inr "java/lang/IllegalStateException", h1)) : vcl mL_move [(1, 3), (0, x1), (0, x2), (1, 338)] h = some (.inl (some (0, 3)), h1) := by
  refine vcl_as (L := [(1, 3), (0, x1), (0, x2), (1, 338), (9, 0)]) rfl ?_
  refine (rn_aload_n (pc := 0) (dd bL_move dL_move_0) rfl).trans ?_
  refine (rn_iconst (pc := 1) (dd bL_move dL_move_1) (by decide)).trans ?_
  refine (rn_aload_n (pc := 2) (dd bL_move dL_move_2) rfl).trans ?_
  refine (rn_iload_n (pc := 3) (dd bL_move dL_move_3) rfl).trans ?_
  refine (rn_iload_n (pc := 4) (dd bL_move dL_move_4) rfl).trans ?_
  refine (rg_virtual (pc := 5) (dd bL_move dL_move_5) rfl rfl (by decide) (kc := 33) rfl s (as := [(1, 3), (0, x1), (0, x2)]) rfl ⟨Nat.le_of_ble_eq_true rfl, Nat.le_of_ble_eq_true rfl, Nat.le_of_ble_eq_true rfl, Nat.le_of_ble_eq_true rfl⟩).trans ?_
  refine (vret_h2 e (x := (0, 17, 28, 25, "java/lang/IllegalStateException")) (by decide +kernel) rfl (dd bL_move dL_move_28) (Nat.le_of_ble_eq_true rfl) rfl).trans ?_
  refine (rn_iconst (pc := 30) (dd bL_move dL_move_30) (by decide)).trans ?_
  exact rn_ireturn (pc := 31) (dd bL_move dL_move_31) (Or.inl rfl)
theorem Wr_move {n : Int} {h : vH} {x1 : Int} {x2 : Int} (J : JN n h) (o1 : h 0 338 0 = 3) (o2 : h 1 338 0 = 1) : wrp n h (fun r => if r = 0 then 0 else 1) (vcl mL_move [(1, 3), (0, x1), (0, x2), (1, 338)] h) (fun a => vcl mX13_move [(1, 282), (0, x1), (0, x2)] a) := by
  have s : h 0 3 0 = 33 := J.1.1.1
  exact w_core (N_move J) o1 o2 (fun h1 r p q e => Wv_move s p q e) (fun h1 a nz e => by
    have c : kMv a x1 x2 = 0 ∨ kMv a x1 x2 = 1 ∨ kMv a x1 x2 = 2 ∨ kMv a x1 x2 = 3 := by
      unfold kMv
      repeat' split
      all_goals omega
    rcases c with c | c | c | c
    · exact absurd c nz
    · have e : vcl mX12_move [(1, 3), (0, x1), (0, x2)] h = some (.inr (e3 (kMv a x1 x2)), h1) := e
      show vcl mL_move [(1, 3), (0, x1), (0, x2), (1, 338)] h = some (.inl (some (0, kMv a x1 x2)), h1)
      rw [c] at e ⊢
      exact Wx_move_1 s e
    · have e : vcl mX12_move [(1, 3), (0, x1), (0, x2)] h = some (.inr (e3 (kMv a x1 x2)), h1) := e
      show vcl mL_move [(1, 3), (0, x1), (0, x2), (1, 338)] h = some (.inl (some (0, kMv a x1 x2)), h1)
      rw [c] at e ⊢
      exact Wx_move_2 s e
    · have e : vcl mX12_move [(1, 3), (0, x1), (0, x2)] h = some (.inr (e3 (kMv a x1 x2)), h1) := e
      show vcl mL_move [(1, 3), (0, x1), (0, x2), (1, 338)] h = some (.inl (some (0, kMv a x1 x2)), h1)
      rw [c] at e ⊢
      exact Wx_move_3 s e
  )
theorem bL_play : vmB mL_play = cL_play := rfl
theorem Wv_play {h h1 : vH} {x1 : Int} {x2 : Int} {r : Int} (s : h 0 3 0 = 33) (a : h1 0 338 0 = 3) (b : h1 1 338 0 = 1) (e : vcl mX12_play [(1, 3), (0, x1), (0, x2)] h = some (.inl (some (0, r)), h1)) : vcl mL_play [(1, 3), (0, x1), (0, x2), (1, 338)] h = some (.inl (some (0, 0)), vup h1 2 338 0 r) := by
  refine vcl_as (L := [(1, 3), (0, x1), (0, x2), (1, 338), (9, 0)]) rfl ?_
  refine (rn_aload_n (pc := 0) (dd bL_play dL_play_0) rfl).trans ?_
  refine (rn_iconst (pc := 1) (dd bL_play dL_play_1) (by decide)).trans ?_
  refine (rn_aload_n (pc := 2) (dd bL_play dL_play_2) rfl).trans ?_
  refine (rn_iload_n (pc := 3) (dd bL_play dL_play_3) rfl).trans ?_
  refine (rn_iload_n (pc := 4) (dd bL_play dL_play_4) rfl).trans ?_
  refine (rg_virtual (pc := 5) (dd bL_play dL_play_5) rfl rfl (by decide) (kc := 33) rfl s (as := [(1, 3), (0, x1), (0, x2)]) rfl ⟨Nat.le_of_ble_eq_true rfl, Nat.le_of_ble_eq_true rfl, Nat.le_of_ble_eq_true rfl, Nat.le_of_ble_eq_true rfl⟩).trans ?_
  refine (vret_v e).trans ?_
  refine (rn_i2l (pc := 8) (dd bL_play dL_play_8)).trans ?_
  refine (rg_lastore (pc := 9) (dd bL_play dL_play_9) a b (by decide) (by decide)).trans ?_
  refine (rn_goto (t := 21) (pc := 10) (dd bL_play dL_play_10) rfl).trans ?_
  refine (rn_iconst (pc := 21) (dd bL_play dL_play_21) (by decide)).trans ?_
  exact rn_ireturn (pc := 22) (dd bL_play dL_play_22) (Or.inl rfl)
theorem Wx_play_1 {h h1 : vH} {x1 : Int} {x2 : Int} (s : h 0 3 0 = 33) (e : vcl mX12_play [(1, 3), (0, x1), (0, x2)] h = some (.inr "java/lang/IndexOutOfBoundsException", h1)) : vcl mL_play [(1, 3), (0, x1), (0, x2), (1, 338)] h = some (.inl (some (0, 1)), h1) := by
  refine vcl_as (L := [(1, 3), (0, x1), (0, x2), (1, 338), (9, 0)]) rfl ?_
  refine (rn_aload_n (pc := 0) (dd bL_play dL_play_0) rfl).trans ?_
  refine (rn_iconst (pc := 1) (dd bL_play dL_play_1) (by decide)).trans ?_
  refine (rn_aload_n (pc := 2) (dd bL_play dL_play_2) rfl).trans ?_
  refine (rn_iload_n (pc := 3) (dd bL_play dL_play_3) rfl).trans ?_
  refine (rn_iload_n (pc := 4) (dd bL_play dL_play_4) rfl).trans ?_
  refine (rg_virtual (pc := 5) (dd bL_play dL_play_5) rfl rfl (by decide) (kc := 33) rfl s (as := [(1, 3), (0, x1), (0, x2)]) rfl ⟨Nat.le_of_ble_eq_true rfl, Nat.le_of_ble_eq_true rfl, Nat.le_of_ble_eq_true rfl, Nat.le_of_ble_eq_true rfl⟩).trans ?_
  refine (vret_h2 e (x := (0, 10, 13, 13, "java/lang/IndexOutOfBoundsException")) (by decide +kernel) rfl (dd bL_play dL_play_13) (Nat.le_of_ble_eq_true rfl) rfl).trans ?_
  refine (rn_iconst (pc := 15) (dd bL_play dL_play_15) (by decide)).trans ?_
  exact rn_ireturn (pc := 16) (dd bL_play dL_play_16) (Or.inl rfl)
theorem Wx_play_2 {h h1 : vH} {x1 : Int} {x2 : Int} (s : h 0 3 0 = 33) (e : vcl mX12_play [(1, 3), (0, x1), (0, x2)] h = some (.inr "java/lang/IllegalStateException", h1)) : vcl mL_play [(1, 3), (0, x1), (0, x2), (1, 338)] h = some (.inl (some (0, 2)), h1) := by
  refine vcl_as (L := [(1, 3), (0, x1), (0, x2), (1, 338), (9, 0)]) rfl ?_
  refine (rn_aload_n (pc := 0) (dd bL_play dL_play_0) rfl).trans ?_
  refine (rn_iconst (pc := 1) (dd bL_play dL_play_1) (by decide)).trans ?_
  refine (rn_aload_n (pc := 2) (dd bL_play dL_play_2) rfl).trans ?_
  refine (rn_iload_n (pc := 3) (dd bL_play dL_play_3) rfl).trans ?_
  refine (rn_iload_n (pc := 4) (dd bL_play dL_play_4) rfl).trans ?_
  refine (rg_virtual (pc := 5) (dd bL_play dL_play_5) rfl rfl (by decide) (kc := 33) rfl s (as := [(1, 3), (0, x1), (0, x2)]) rfl ⟨Nat.le_of_ble_eq_true rfl, Nat.le_of_ble_eq_true rfl, Nat.le_of_ble_eq_true rfl, Nat.le_of_ble_eq_true rfl⟩).trans ?_
  refine (vret_h2 e (x := (0, 10, 17, 25, "java/lang/IllegalStateException")) (by decide +kernel) rfl (dd bL_play dL_play_17) (Nat.le_of_ble_eq_true rfl) rfl).trans ?_
  refine (rn_iconst (pc := 19) (dd bL_play dL_play_19) (by decide)).trans ?_
  exact rn_ireturn (pc := 20) (dd bL_play dL_play_20) (Or.inl rfl)
theorem Wr_play {n : Int} {h : vH} {x1 : Int} {x2 : Int} (J : JN n h) (o1 : h 0 338 0 = 3) (o2 : h 1 338 0 = 1) : wrp n h (fun r => r) (vcl mL_play [(1, 3), (0, x1), (0, x2), (1, 338)] h) (fun a => vcl mX13_play [(1, 282), (0, x1), (0, x2)] a) := by
  have s : h 0 3 0 = 33 := J.1.1.1
  exact w_core (N_play J) o1 o2 (fun h1 r p q e => Wv_play s p q e) (fun h1 a nz e => by
    have c : kPy a x1 x2 = 0 ∨ kPy a x1 x2 = 1 ∨ kPy a x1 x2 = 2 := by
      unfold kPy
      repeat' split
      all_goals omega
    rcases c with c | c | c
    · exact absurd c nz
    · have e : vcl mX12_play [(1, 3), (0, x1), (0, x2)] h = some (.inr (e2 (kPy a x1 x2)), h1) := e
      show vcl mL_play [(1, 3), (0, x1), (0, x2), (1, 338)] h = some (.inl (some (0, kPy a x1 x2)), h1)
      rw [c] at e ⊢
      exact Wx_play_1 s e
    · have e : vcl mX12_play [(1, 3), (0, x1), (0, x2)] h = some (.inr (e2 (kPy a x1 x2)), h1) := e
      show vcl mL_play [(1, 3), (0, x1), (0, x2), (1, 338)] h = some (.inl (some (0, kPy a x1 x2)), h1)
      rw [c] at e ⊢
      exact Wx_play_2 s e
  )
theorem bL_cursor : vmB mL_cursor = cL_cursor := rfl
theorem Wv_cursor {h h1 : vH} {x1 : Int} {x2 : Int} {r : Int} (s : h 0 3 0 = 33) (a : h1 0 338 0 = 3) (b : h1 1 338 0 = 1) (e : vcl mX12_cursor [(1, 3), (0, x1), (0, x2)] h = some (.inl (some (0, r)), h1)) : vcl mL_cursor [(1, 3), (0, x1), (0, x2), (1, 338)] h = some (.inl (some (0, 0)), vup h1 2 338 0 r) := by
  refine vcl_as (L := [(1, 3), (0, x1), (0, x2), (1, 338), (9, 0)]) rfl ?_
  refine (rn_aload_n (pc := 0) (dd bL_cursor dL_cursor_0) rfl).trans ?_
  refine (rn_iconst (pc := 1) (dd bL_cursor dL_cursor_1) (by decide)).trans ?_
  refine (rn_aload_n (pc := 2) (dd bL_cursor dL_cursor_2) rfl).trans ?_
  refine (rn_iload_n (pc := 3) (dd bL_cursor dL_cursor_3) rfl).trans ?_
  refine (rn_iload_n (pc := 4) (dd bL_cursor dL_cursor_4) rfl).trans ?_
  refine (rg_virtual (pc := 5) (dd bL_cursor dL_cursor_5) rfl rfl (by decide) (kc := 33) rfl s (as := [(1, 3), (0, x1), (0, x2)]) rfl ⟨Nat.le_of_ble_eq_true rfl, Nat.le_of_ble_eq_true rfl, Nat.le_of_ble_eq_true rfl, Nat.le_of_ble_eq_true rfl⟩).trans ?_
  refine (vret_v e).trans ?_
  refine (rn_i2l (pc := 8) (dd bL_cursor dL_cursor_8)).trans ?_
  refine (rg_lastore (pc := 9) (dd bL_cursor dL_cursor_9) a b (by decide) (by decide)).trans ?_
  refine (rn_goto (t := 21) (pc := 10) (dd bL_cursor dL_cursor_10) rfl).trans ?_
  refine (rn_iconst (pc := 21) (dd bL_cursor dL_cursor_21) (by decide)).trans ?_
  exact rn_ireturn (pc := 22) (dd bL_cursor dL_cursor_22) (Or.inl rfl)
theorem Wx_cursor_1 {h h1 : vH} {x1 : Int} {x2 : Int} (s : h 0 3 0 = 33) (e : vcl mX12_cursor [(1, 3), (0, x1), (0, x2)] h = some (.inr "java/lang/IndexOutOfBoundsException", h1)) : vcl mL_cursor [(1, 3), (0, x1), (0, x2), (1, 338)] h = some (.inl (some (0, 1)), h1) := by
  refine vcl_as (L := [(1, 3), (0, x1), (0, x2), (1, 338), (9, 0)]) rfl ?_
  refine (rn_aload_n (pc := 0) (dd bL_cursor dL_cursor_0) rfl).trans ?_
  refine (rn_iconst (pc := 1) (dd bL_cursor dL_cursor_1) (by decide)).trans ?_
  refine (rn_aload_n (pc := 2) (dd bL_cursor dL_cursor_2) rfl).trans ?_
  refine (rn_iload_n (pc := 3) (dd bL_cursor dL_cursor_3) rfl).trans ?_
  refine (rn_iload_n (pc := 4) (dd bL_cursor dL_cursor_4) rfl).trans ?_
  refine (rg_virtual (pc := 5) (dd bL_cursor dL_cursor_5) rfl rfl (by decide) (kc := 33) rfl s (as := [(1, 3), (0, x1), (0, x2)]) rfl ⟨Nat.le_of_ble_eq_true rfl, Nat.le_of_ble_eq_true rfl, Nat.le_of_ble_eq_true rfl, Nat.le_of_ble_eq_true rfl⟩).trans ?_
  refine (vret_h2 e (x := (0, 10, 13, 13, "java/lang/IndexOutOfBoundsException")) (by decide +kernel) rfl (dd bL_cursor dL_cursor_13) (Nat.le_of_ble_eq_true rfl) rfl).trans ?_
  refine (rn_iconst (pc := 15) (dd bL_cursor dL_cursor_15) (by decide)).trans ?_
  exact rn_ireturn (pc := 16) (dd bL_cursor dL_cursor_16) (Or.inl rfl)
theorem Wx_cursor_2 {h h1 : vH} {x1 : Int} {x2 : Int} (s : h 0 3 0 = 33) (e : vcl mX12_cursor [(1, 3), (0, x1), (0, x2)] h = some (.inr "java/lang/IllegalArgumentException", h1)) : vcl mL_cursor [(1, 3), (0, x1), (0, x2), (1, 338)] h = some (.inl (some (0, 2)), h1) := by
  refine vcl_as (L := [(1, 3), (0, x1), (0, x2), (1, 338), (9, 0)]) rfl ?_
  refine (rn_aload_n (pc := 0) (dd bL_cursor dL_cursor_0) rfl).trans ?_
  refine (rn_iconst (pc := 1) (dd bL_cursor dL_cursor_1) (by decide)).trans ?_
  refine (rn_aload_n (pc := 2) (dd bL_cursor dL_cursor_2) rfl).trans ?_
  refine (rn_iload_n (pc := 3) (dd bL_cursor dL_cursor_3) rfl).trans ?_
  refine (rn_iload_n (pc := 4) (dd bL_cursor dL_cursor_4) rfl).trans ?_
  refine (rg_virtual (pc := 5) (dd bL_cursor dL_cursor_5) rfl rfl (by decide) (kc := 33) rfl s (as := [(1, 3), (0, x1), (0, x2)]) rfl ⟨Nat.le_of_ble_eq_true rfl, Nat.le_of_ble_eq_true rfl, Nat.le_of_ble_eq_true rfl, Nat.le_of_ble_eq_true rfl⟩).trans ?_
  refine (vret_h2 e (x := (0, 10, 17, 19, "java/lang/IllegalArgumentException")) (by decide +kernel) rfl (dd bL_cursor dL_cursor_17) (Nat.le_of_ble_eq_true rfl) rfl).trans ?_
  refine (rn_iconst (pc := 19) (dd bL_cursor dL_cursor_19) (by decide)).trans ?_
  exact rn_ireturn (pc := 20) (dd bL_cursor dL_cursor_20) (Or.inl rfl)
theorem Wr_cursor {n : Int} {h : vH} {x1 : Int} {x2 : Int} (J : JN n h) (o1 : h 0 338 0 = 3) (o2 : h 1 338 0 = 1) : wrp n h (fun r => r) (vcl mL_cursor [(1, 3), (0, x1), (0, x2), (1, 338)] h) (fun a => vcl mX13_cursor [(1, 282), (0, x1), (0, x2)] a) := by
  have s : h 0 3 0 = 33 := J.1.1.1
  exact w_core (N_cursor J) o1 o2 (fun h1 r p q e => Wv_cursor s p q e) (fun h1 a nz e => by
    have c : kCu x1 x2 = 0 ∨ kCu x1 x2 = 1 ∨ kCu x1 x2 = 2 := by
      unfold kCu
      repeat' split
      all_goals omega
    rcases c with c | c | c
    · exact absurd c nz
    · have e : vcl mX12_cursor [(1, 3), (0, x1), (0, x2)] h = some (.inr (e3 (kCu x1 x2)), h1) := e
      show vcl mL_cursor [(1, 3), (0, x1), (0, x2), (1, 338)] h = some (.inl (some (0, kCu x1 x2)), h1)
      rw [c] at e ⊢
      exact Wx_cursor_1 s e
    · have e : vcl mX12_cursor [(1, 3), (0, x1), (0, x2)] h = some (.inr (e3 (kCu x1 x2)), h1) := e
      show vcl mL_cursor [(1, 3), (0, x1), (0, x2), (1, 338)] h = some (.inl (some (0, kCu x1 x2)), h1)
      rw [c] at e ⊢
      exact Wx_cursor_2 s e
  )
theorem bL_scroll : vmB mL_scroll = cL_scroll := rfl
theorem Wv_scroll {h h1 : vH} {x1 : Int} {x2 : Int} {r : Int} (s : h 0 3 0 = 33) (a : h1 0 338 0 = 3) (b : h1 1 338 0 = 1) (e : vcl mX12_scroll [(1, 3), (0, x1), (0, x2)] h = some (.inl (some (0, r)), h1)) : vcl mL_scroll [(1, 3), (0, x1), (0, x2), (1, 338)] h = some (.inl (some (0, 0)), vup h1 2 338 0 r) := by
  refine vcl_as (L := [(1, 3), (0, x1), (0, x2), (1, 338), (9, 0)]) rfl ?_
  refine (rn_aload_n (pc := 0) (dd bL_scroll dL_scroll_0) rfl).trans ?_
  refine (rn_iconst (pc := 1) (dd bL_scroll dL_scroll_1) (by decide)).trans ?_
  refine (rn_aload_n (pc := 2) (dd bL_scroll dL_scroll_2) rfl).trans ?_
  refine (rn_iload_n (pc := 3) (dd bL_scroll dL_scroll_3) rfl).trans ?_
  refine (rn_iload_n (pc := 4) (dd bL_scroll dL_scroll_4) rfl).trans ?_
  refine (rg_virtual (pc := 5) (dd bL_scroll dL_scroll_5) rfl rfl (by decide) (kc := 33) rfl s (as := [(1, 3), (0, x1), (0, x2)]) rfl ⟨Nat.le_of_ble_eq_true rfl, Nat.le_of_ble_eq_true rfl, Nat.le_of_ble_eq_true rfl, Nat.le_of_ble_eq_true rfl⟩).trans ?_
  refine (vret_v e).trans ?_
  refine (rn_i2l (pc := 8) (dd bL_scroll dL_scroll_8)).trans ?_
  refine (rg_lastore (pc := 9) (dd bL_scroll dL_scroll_9) a b (by decide) (by decide)).trans ?_
  refine (rn_goto (t := 25) (pc := 10) (dd bL_scroll dL_scroll_10) rfl).trans ?_
  refine (rn_iconst (pc := 25) (dd bL_scroll dL_scroll_25) (by decide)).trans ?_
  exact rn_ireturn (pc := 26) (dd bL_scroll dL_scroll_26) (Or.inl rfl)
theorem Wx_scroll_1 {h h1 : vH} {x1 : Int} {x2 : Int} (s : h 0 3 0 = 33) (e : vcl mX12_scroll [(1, 3), (0, x1), (0, x2)] h = some (.inr "java/lang/IndexOutOfBoundsException", h1)) : vcl mL_scroll [(1, 3), (0, x1), (0, x2), (1, 338)] h = some (.inl (some (0, 1)), h1) := by
  refine vcl_as (L := [(1, 3), (0, x1), (0, x2), (1, 338), (9, 0)]) rfl ?_
  refine (rn_aload_n (pc := 0) (dd bL_scroll dL_scroll_0) rfl).trans ?_
  refine (rn_iconst (pc := 1) (dd bL_scroll dL_scroll_1) (by decide)).trans ?_
  refine (rn_aload_n (pc := 2) (dd bL_scroll dL_scroll_2) rfl).trans ?_
  refine (rn_iload_n (pc := 3) (dd bL_scroll dL_scroll_3) rfl).trans ?_
  refine (rn_iload_n (pc := 4) (dd bL_scroll dL_scroll_4) rfl).trans ?_
  refine (rg_virtual (pc := 5) (dd bL_scroll dL_scroll_5) rfl rfl (by decide) (kc := 33) rfl s (as := [(1, 3), (0, x1), (0, x2)]) rfl ⟨Nat.le_of_ble_eq_true rfl, Nat.le_of_ble_eq_true rfl, Nat.le_of_ble_eq_true rfl, Nat.le_of_ble_eq_true rfl⟩).trans ?_
  refine (vret_h2 e (x := (0, 10, 13, 13, "java/lang/IndexOutOfBoundsException")) (by decide +kernel) rfl (dd bL_scroll dL_scroll_13) (Nat.le_of_ble_eq_true rfl) rfl).trans ?_
  refine (rn_iconst (pc := 15) (dd bL_scroll dL_scroll_15) (by decide)).trans ?_
  exact rn_ireturn (pc := 16) (dd bL_scroll dL_scroll_16) (Or.inl rfl)
theorem Wx_scroll_2 {h h1 : vH} {x1 : Int} {x2 : Int} (s : h 0 3 0 = 33) (e : vcl mX12_scroll [(1, 3), (0, x1), (0, x2)] h = some (.inr "java/lang/IllegalArgumentException", h1)) : vcl mL_scroll [(1, 3), (0, x1), (0, x2), (1, 338)] h = some (.inl (some (0, 2)), h1) := by
  refine vcl_as (L := [(1, 3), (0, x1), (0, x2), (1, 338), (9, 0)]) rfl ?_
  refine (rn_aload_n (pc := 0) (dd bL_scroll dL_scroll_0) rfl).trans ?_
  refine (rn_iconst (pc := 1) (dd bL_scroll dL_scroll_1) (by decide)).trans ?_
  refine (rn_aload_n (pc := 2) (dd bL_scroll dL_scroll_2) rfl).trans ?_
  refine (rn_iload_n (pc := 3) (dd bL_scroll dL_scroll_3) rfl).trans ?_
  refine (rn_iload_n (pc := 4) (dd bL_scroll dL_scroll_4) rfl).trans ?_
  refine (rg_virtual (pc := 5) (dd bL_scroll dL_scroll_5) rfl rfl (by decide) (kc := 33) rfl s (as := [(1, 3), (0, x1), (0, x2)]) rfl ⟨Nat.le_of_ble_eq_true rfl, Nat.le_of_ble_eq_true rfl, Nat.le_of_ble_eq_true rfl, Nat.le_of_ble_eq_true rfl⟩).trans ?_
  refine (vret_h2 e (x := (0, 10, 17, 19, "java/lang/IllegalArgumentException")) (by decide +kernel) rfl (dd bL_scroll dL_scroll_17) (Nat.le_of_ble_eq_true rfl) rfl).trans ?_
  refine (rn_iconst (pc := 19) (dd bL_scroll dL_scroll_19) (by decide)).trans ?_
  exact rn_ireturn (pc := 20) (dd bL_scroll dL_scroll_20) (Or.inl rfl)
theorem Wx_scroll_3 {h h1 : vH} {x1 : Int} {x2 : Int} (s : h 0 3 0 = 33) (e : vcl mX12_scroll [(1, 3), (0, x1), (0, x2)] h = some (.inr "java/lang/IllegalStateException", h1)) : vcl mL_scroll [(1, 3), (0, x1), (0, x2), (1, 338)] h = some (.inl (some (0, 3)), h1) := by
  refine vcl_as (L := [(1, 3), (0, x1), (0, x2), (1, 338), (9, 0)]) rfl ?_
  refine (rn_aload_n (pc := 0) (dd bL_scroll dL_scroll_0) rfl).trans ?_
  refine (rn_iconst (pc := 1) (dd bL_scroll dL_scroll_1) (by decide)).trans ?_
  refine (rn_aload_n (pc := 2) (dd bL_scroll dL_scroll_2) rfl).trans ?_
  refine (rn_iload_n (pc := 3) (dd bL_scroll dL_scroll_3) rfl).trans ?_
  refine (rn_iload_n (pc := 4) (dd bL_scroll dL_scroll_4) rfl).trans ?_
  refine (rg_virtual (pc := 5) (dd bL_scroll dL_scroll_5) rfl rfl (by decide) (kc := 33) rfl s (as := [(1, 3), (0, x1), (0, x2)]) rfl ⟨Nat.le_of_ble_eq_true rfl, Nat.le_of_ble_eq_true rfl, Nat.le_of_ble_eq_true rfl, Nat.le_of_ble_eq_true rfl⟩).trans ?_
  refine (vret_h2 e (x := (0, 10, 21, 25, "java/lang/IllegalStateException")) (by decide +kernel) rfl (dd bL_scroll dL_scroll_21) (Nat.le_of_ble_eq_true rfl) rfl).trans ?_
  refine (rn_iconst (pc := 23) (dd bL_scroll dL_scroll_23) (by decide)).trans ?_
  exact rn_ireturn (pc := 24) (dd bL_scroll dL_scroll_24) (Or.inl rfl)
theorem Wr_scroll {n : Int} {h : vH} {x1 : Int} {x2 : Int} (J : JN n h) (o1 : h 0 338 0 = 3) (o2 : h 1 338 0 = 1) : wrp n h (fun r => r) (vcl mL_scroll [(1, 3), (0, x1), (0, x2), (1, 338)] h) (fun a => vcl mX13_scroll [(1, 282), (0, x1), (0, x2)] a) := by
  have s : h 0 3 0 = 33 := J.1.1.1
  exact w_core (N_scroll J) o1 o2 (fun h1 r p q e => Wv_scroll s p q e) (fun h1 a nz e => by
    have c : kSc a x1 x2 = 0 ∨ kSc a x1 x2 = 1 ∨ kSc a x1 x2 = 2 ∨ kSc a x1 x2 = 3 := by
      unfold kSc
      repeat' split
      all_goals omega
    rcases c with c | c | c | c
    · exact absurd c nz
    · have e : vcl mX12_scroll [(1, 3), (0, x1), (0, x2)] h = some (.inr (e3 (kSc a x1 x2)), h1) := e
      show vcl mL_scroll [(1, 3), (0, x1), (0, x2), (1, 338)] h = some (.inl (some (0, kSc a x1 x2)), h1)
      rw [c] at e ⊢
      exact Wx_scroll_1 s e
    · have e : vcl mX12_scroll [(1, 3), (0, x1), (0, x2)] h = some (.inr (e3 (kSc a x1 x2)), h1) := e
      show vcl mL_scroll [(1, 3), (0, x1), (0, x2), (1, 338)] h = some (.inl (some (0, kSc a x1 x2)), h1)
      rw [c] at e ⊢
      exact Wx_scroll_2 s e
    · have e : vcl mX12_scroll [(1, 3), (0, x1), (0, x2)] h = some (.inr (e3 (kSc a x1 x2)), h1) := e
      show vcl mL_scroll [(1, 3), (0, x1), (0, x2), (1, 338)] h = some (.inl (some (0, kSc a x1 x2)), h1)
      rw [c] at e ⊢
      exact Wx_scroll_3 s e
  )
theorem bL_type : vmB mL_type = cL_type := rfl
theorem Wv_type {h h1 : vH} {x1 : Int} {x2 : Int} {r : Int} (s : h 0 3 0 = 33) (a : h1 0 338 0 = 3) (b : h1 1 338 0 = 1) (e : vcl mX12_type [(1, 3), (0, x1), (0, x2)] h = some (.inl (some (0, r)), h1)) : vcl mL_type [(1, 3), (0, x1), (0, x2), (1, 338)] h = some (.inl (some (0, 0)), vup h1 2 338 0 r) := by
  refine vcl_as (L := [(1, 3), (0, x1), (0, x2), (1, 338), (9, 0)]) rfl ?_
  refine (rn_aload_n (pc := 0) (dd bL_type dL_type_0) rfl).trans ?_
  refine (rn_iconst (pc := 1) (dd bL_type dL_type_1) (by decide)).trans ?_
  refine (rn_aload_n (pc := 2) (dd bL_type dL_type_2) rfl).trans ?_
  refine (rn_iload_n (pc := 3) (dd bL_type dL_type_3) rfl).trans ?_
  refine (rn_iload_n (pc := 4) (dd bL_type dL_type_4) rfl).trans ?_
  refine (rg_virtual (pc := 5) (dd bL_type dL_type_5) rfl rfl (by decide) (kc := 33) rfl s (as := [(1, 3), (0, x1), (0, x2)]) rfl ⟨Nat.le_of_ble_eq_true rfl, Nat.le_of_ble_eq_true rfl, Nat.le_of_ble_eq_true rfl, Nat.le_of_ble_eq_true rfl⟩).trans ?_
  refine (vret_v e).trans ?_
  refine (rn_i2l (pc := 8) (dd bL_type dL_type_8)).trans ?_
  refine (rg_lastore (pc := 9) (dd bL_type dL_type_9) a b (by decide) (by decide)).trans ?_
  refine (rn_goto (t := 25) (pc := 10) (dd bL_type dL_type_10) rfl).trans ?_
  refine (rn_iconst (pc := 25) (dd bL_type dL_type_25) (by decide)).trans ?_
  exact rn_ireturn (pc := 26) (dd bL_type dL_type_26) (Or.inl rfl)
theorem Wx_type_1 {h h1 : vH} {x1 : Int} {x2 : Int} (s : h 0 3 0 = 33) (e : vcl mX12_type [(1, 3), (0, x1), (0, x2)] h = some (.inr "java/lang/IndexOutOfBoundsException", h1)) : vcl mL_type [(1, 3), (0, x1), (0, x2), (1, 338)] h = some (.inl (some (0, 1)), h1) := by
  refine vcl_as (L := [(1, 3), (0, x1), (0, x2), (1, 338), (9, 0)]) rfl ?_
  refine (rn_aload_n (pc := 0) (dd bL_type dL_type_0) rfl).trans ?_
  refine (rn_iconst (pc := 1) (dd bL_type dL_type_1) (by decide)).trans ?_
  refine (rn_aload_n (pc := 2) (dd bL_type dL_type_2) rfl).trans ?_
  refine (rn_iload_n (pc := 3) (dd bL_type dL_type_3) rfl).trans ?_
  refine (rn_iload_n (pc := 4) (dd bL_type dL_type_4) rfl).trans ?_
  refine (rg_virtual (pc := 5) (dd bL_type dL_type_5) rfl rfl (by decide) (kc := 33) rfl s (as := [(1, 3), (0, x1), (0, x2)]) rfl ⟨Nat.le_of_ble_eq_true rfl, Nat.le_of_ble_eq_true rfl, Nat.le_of_ble_eq_true rfl, Nat.le_of_ble_eq_true rfl⟩).trans ?_
  refine (vret_h2 e (x := (0, 10, 13, 13, "java/lang/IndexOutOfBoundsException")) (by decide +kernel) rfl (dd bL_type dL_type_13) (Nat.le_of_ble_eq_true rfl) rfl).trans ?_
  refine (rn_iconst (pc := 15) (dd bL_type dL_type_15) (by decide)).trans ?_
  exact rn_ireturn (pc := 16) (dd bL_type dL_type_16) (Or.inl rfl)
theorem Wx_type_2 {h h1 : vH} {x1 : Int} {x2 : Int} (s : h 0 3 0 = 33) (e : vcl mX12_type [(1, 3), (0, x1), (0, x2)] h = some (.inr "java/lang/IllegalArgumentException", h1)) : vcl mL_type [(1, 3), (0, x1), (0, x2), (1, 338)] h = some (.inl (some (0, 2)), h1) := by
  refine vcl_as (L := [(1, 3), (0, x1), (0, x2), (1, 338), (9, 0)]) rfl ?_
  refine (rn_aload_n (pc := 0) (dd bL_type dL_type_0) rfl).trans ?_
  refine (rn_iconst (pc := 1) (dd bL_type dL_type_1) (by decide)).trans ?_
  refine (rn_aload_n (pc := 2) (dd bL_type dL_type_2) rfl).trans ?_
  refine (rn_iload_n (pc := 3) (dd bL_type dL_type_3) rfl).trans ?_
  refine (rn_iload_n (pc := 4) (dd bL_type dL_type_4) rfl).trans ?_
  refine (rg_virtual (pc := 5) (dd bL_type dL_type_5) rfl rfl (by decide) (kc := 33) rfl s (as := [(1, 3), (0, x1), (0, x2)]) rfl ⟨Nat.le_of_ble_eq_true rfl, Nat.le_of_ble_eq_true rfl, Nat.le_of_ble_eq_true rfl, Nat.le_of_ble_eq_true rfl⟩).trans ?_
  refine (vret_h2 e (x := (0, 10, 17, 19, "java/lang/IllegalArgumentException")) (by decide +kernel) rfl (dd bL_type dL_type_17) (Nat.le_of_ble_eq_true rfl) rfl).trans ?_
  refine (rn_iconst (pc := 19) (dd bL_type dL_type_19) (by decide)).trans ?_
  exact rn_ireturn (pc := 20) (dd bL_type dL_type_20) (Or.inl rfl)
theorem Wx_type_3 {h h1 : vH} {x1 : Int} {x2 : Int} (s : h 0 3 0 = 33) (e : vcl mX12_type [(1, 3), (0, x1), (0, x2)] h = some (.inr "java/lang/IllegalStateException", h1)) : vcl mL_type [(1, 3), (0, x1), (0, x2), (1, 338)] h = some (.inl (some (0, 3)), h1) := by
  refine vcl_as (L := [(1, 3), (0, x1), (0, x2), (1, 338), (9, 0)]) rfl ?_
  refine (rn_aload_n (pc := 0) (dd bL_type dL_type_0) rfl).trans ?_
  refine (rn_iconst (pc := 1) (dd bL_type dL_type_1) (by decide)).trans ?_
  refine (rn_aload_n (pc := 2) (dd bL_type dL_type_2) rfl).trans ?_
  refine (rn_iload_n (pc := 3) (dd bL_type dL_type_3) rfl).trans ?_
  refine (rn_iload_n (pc := 4) (dd bL_type dL_type_4) rfl).trans ?_
  refine (rg_virtual (pc := 5) (dd bL_type dL_type_5) rfl rfl (by decide) (kc := 33) rfl s (as := [(1, 3), (0, x1), (0, x2)]) rfl ⟨Nat.le_of_ble_eq_true rfl, Nat.le_of_ble_eq_true rfl, Nat.le_of_ble_eq_true rfl, Nat.le_of_ble_eq_true rfl⟩).trans ?_
  refine (vret_h2 e (x := (0, 10, 21, 25, "java/lang/IllegalStateException")) (by decide +kernel) rfl (dd bL_type dL_type_21) (Nat.le_of_ble_eq_true rfl) rfl).trans ?_
  refine (rn_iconst (pc := 23) (dd bL_type dL_type_23) (by decide)).trans ?_
  exact rn_ireturn (pc := 24) (dd bL_type dL_type_24) (Or.inl rfl)
theorem Wr_type {n : Int} {h : vH} {x1 : Int} {x2 : Int} (J : JN n h) (hn : 0 ≤ n ∧ n ≤ 9000) (o1 : h 0 338 0 = 3) (o2 : h 1 338 0 = 1) : wrp n h (fun r => r) (vcl mL_type [(1, 3), (0, x1), (0, x2), (1, 338)] h) (fun a => vcl mX13_type [(1, 282), (0, x1), (0, x2)] a) := by
  have s : h 0 3 0 = 33 := J.1.1.1
  exact w_core (N_type J hn) o1 o2 (fun h1 r p q e => Wv_type s p q e) (fun h1 a nz e => by
    have c : kTy a x1 x2 = 0 ∨ kTy a x1 x2 = 1 ∨ kTy a x1 x2 = 2 ∨ kTy a x1 x2 = 3 := by
      unfold kTy
      repeat' split
      all_goals omega
    rcases c with c | c | c | c
    · exact absurd c nz
    · have e : vcl mX12_type [(1, 3), (0, x1), (0, x2)] h = some (.inr (e3 (kTy a x1 x2)), h1) := e
      show vcl mL_type [(1, 3), (0, x1), (0, x2), (1, 338)] h = some (.inl (some (0, kTy a x1 x2)), h1)
      rw [c] at e ⊢
      exact Wx_type_1 s e
    · have e : vcl mX12_type [(1, 3), (0, x1), (0, x2)] h = some (.inr (e3 (kTy a x1 x2)), h1) := e
      show vcl mL_type [(1, 3), (0, x1), (0, x2), (1, 338)] h = some (.inl (some (0, kTy a x1 x2)), h1)
      rw [c] at e ⊢
      exact Wx_type_2 s e
    · have e : vcl mX12_type [(1, 3), (0, x1), (0, x2)] h = some (.inr (e3 (kTy a x1 x2)), h1) := e
      show vcl mL_type [(1, 3), (0, x1), (0, x2), (1, 338)] h = some (.inl (some (0, kTy a x1 x2)), h1)
      rw [c] at e ⊢
      exact Wx_type_3 s e
  )
theorem bL_typeBox : vmB mL_typeBox = cL_typeBox := rfl
theorem Wv_typeBox {h h1 : vH} {x1 : Int} {x2 : Int} {x3 : Int} {x4 : Int} {x5 : Int} {r : Int} (s : h 0 3 0 = 33) (a : h1 0 338 0 = 3) (b : h1 1 338 0 = 1) (e : vcl mX12_typeBox [(1, 3), (0, x1), (0, x2), (0, x3), (0, x4), (0, x5)] h = some (.inl (some (0, r)), h1)) : vcl mL_typeBox [(1, 3), (0, x1), (0, x2), (0, x3), (0, x4), (0, x5), (1, 338)] h = some (.inl (some (0, 0)), vup h1 2 338 0 r) := by
  refine vcl_as (L := [(1, 3), (0, x1), (0, x2), (0, x3), (0, x4), (0, x5), (1, 338), (9, 0)]) rfl ?_
  refine (rn_aload (pc := 0) (dd bL_typeBox dL_typeBox_0) rfl).trans ?_
  refine (rn_iconst (pc := 2) (dd bL_typeBox dL_typeBox_2) (by decide)).trans ?_
  refine (rn_aload_n (pc := 3) (dd bL_typeBox dL_typeBox_3) rfl).trans ?_
  refine (rn_iload_n (pc := 4) (dd bL_typeBox dL_typeBox_4) rfl).trans ?_
  refine (rn_iload_n (pc := 5) (dd bL_typeBox dL_typeBox_5) rfl).trans ?_
  refine (rn_iload_n (pc := 6) (dd bL_typeBox dL_typeBox_6) rfl).trans ?_
  refine (rn_iload (pc := 7) (dd bL_typeBox dL_typeBox_7) rfl).trans ?_
  refine (rn_iload (pc := 9) (dd bL_typeBox dL_typeBox_9) rfl).trans ?_
  refine (rg_virtual (pc := 11) (dd bL_typeBox dL_typeBox_11) rfl rfl (by decide) (kc := 33) rfl s (as := [(1, 3), (0, x1), (0, x2), (0, x3), (0, x4), (0, x5)]) rfl ⟨Nat.le_of_ble_eq_true rfl, Nat.le_of_ble_eq_true rfl, Nat.le_of_ble_eq_true rfl, Nat.le_of_ble_eq_true rfl⟩).trans ?_
  refine (vret_v e).trans ?_
  refine (rn_i2l (pc := 14) (dd bL_typeBox dL_typeBox_14)).trans ?_
  refine (rg_lastore (pc := 15) (dd bL_typeBox dL_typeBox_15) a b (by decide) (by decide)).trans ?_
  refine (rn_goto (t := 31) (pc := 16) (dd bL_typeBox dL_typeBox_16) rfl).trans ?_
  refine (rn_iconst (pc := 31) (dd bL_typeBox dL_typeBox_31) (by decide)).trans ?_
  exact rn_ireturn (pc := 32) (dd bL_typeBox dL_typeBox_32) (Or.inl rfl)
theorem Wx_typeBox_1 {h h1 : vH} {x1 : Int} {x2 : Int} {x3 : Int} {x4 : Int} {x5 : Int} (s : h 0 3 0 = 33) (e : vcl mX12_typeBox [(1, 3), (0, x1), (0, x2), (0, x3), (0, x4), (0, x5)] h = some (.inr "java/lang/IndexOutOfBoundsException", h1)) : vcl mL_typeBox [(1, 3), (0, x1), (0, x2), (0, x3), (0, x4), (0, x5), (1, 338)] h = some (.inl (some (0, 1)), h1) := by
  refine vcl_as (L := [(1, 3), (0, x1), (0, x2), (0, x3), (0, x4), (0, x5), (1, 338), (9, 0)]) rfl ?_
  refine (rn_aload (pc := 0) (dd bL_typeBox dL_typeBox_0) rfl).trans ?_
  refine (rn_iconst (pc := 2) (dd bL_typeBox dL_typeBox_2) (by decide)).trans ?_
  refine (rn_aload_n (pc := 3) (dd bL_typeBox dL_typeBox_3) rfl).trans ?_
  refine (rn_iload_n (pc := 4) (dd bL_typeBox dL_typeBox_4) rfl).trans ?_
  refine (rn_iload_n (pc := 5) (dd bL_typeBox dL_typeBox_5) rfl).trans ?_
  refine (rn_iload_n (pc := 6) (dd bL_typeBox dL_typeBox_6) rfl).trans ?_
  refine (rn_iload (pc := 7) (dd bL_typeBox dL_typeBox_7) rfl).trans ?_
  refine (rn_iload (pc := 9) (dd bL_typeBox dL_typeBox_9) rfl).trans ?_
  refine (rg_virtual (pc := 11) (dd bL_typeBox dL_typeBox_11) rfl rfl (by decide) (kc := 33) rfl s (as := [(1, 3), (0, x1), (0, x2), (0, x3), (0, x4), (0, x5)]) rfl ⟨Nat.le_of_ble_eq_true rfl, Nat.le_of_ble_eq_true rfl, Nat.le_of_ble_eq_true rfl, Nat.le_of_ble_eq_true rfl⟩).trans ?_
  refine (vret_h2 e (x := (0, 16, 19, 13, "java/lang/IndexOutOfBoundsException")) (by decide +kernel) rfl (dd bL_typeBox dL_typeBox_19) (Nat.le_of_ble_eq_true rfl) rfl).trans ?_
  refine (rn_iconst (pc := 21) (dd bL_typeBox dL_typeBox_21) (by decide)).trans ?_
  exact rn_ireturn (pc := 22) (dd bL_typeBox dL_typeBox_22) (Or.inl rfl)
theorem Wx_typeBox_2 {h h1 : vH} {x1 : Int} {x2 : Int} {x3 : Int} {x4 : Int} {x5 : Int} (s : h 0 3 0 = 33) (e : vcl mX12_typeBox [(1, 3), (0, x1), (0, x2), (0, x3), (0, x4), (0, x5)] h = some (.inr "java/lang/IllegalArgumentException", h1)) : vcl mL_typeBox [(1, 3), (0, x1), (0, x2), (0, x3), (0, x4), (0, x5), (1, 338)] h = some (.inl (some (0, 2)), h1) := by
  refine vcl_as (L := [(1, 3), (0, x1), (0, x2), (0, x3), (0, x4), (0, x5), (1, 338), (9, 0)]) rfl ?_
  refine (rn_aload (pc := 0) (dd bL_typeBox dL_typeBox_0) rfl).trans ?_
  refine (rn_iconst (pc := 2) (dd bL_typeBox dL_typeBox_2) (by decide)).trans ?_
  refine (rn_aload_n (pc := 3) (dd bL_typeBox dL_typeBox_3) rfl).trans ?_
  refine (rn_iload_n (pc := 4) (dd bL_typeBox dL_typeBox_4) rfl).trans ?_
  refine (rn_iload_n (pc := 5) (dd bL_typeBox dL_typeBox_5) rfl).trans ?_
  refine (rn_iload_n (pc := 6) (dd bL_typeBox dL_typeBox_6) rfl).trans ?_
  refine (rn_iload (pc := 7) (dd bL_typeBox dL_typeBox_7) rfl).trans ?_
  refine (rn_iload (pc := 9) (dd bL_typeBox dL_typeBox_9) rfl).trans ?_
  refine (rg_virtual (pc := 11) (dd bL_typeBox dL_typeBox_11) rfl rfl (by decide) (kc := 33) rfl s (as := [(1, 3), (0, x1), (0, x2), (0, x3), (0, x4), (0, x5)]) rfl ⟨Nat.le_of_ble_eq_true rfl, Nat.le_of_ble_eq_true rfl, Nat.le_of_ble_eq_true rfl, Nat.le_of_ble_eq_true rfl⟩).trans ?_
  refine (vret_h2 e (x := (0, 16, 23, 19, "java/lang/IllegalArgumentException")) (by decide +kernel) rfl (dd bL_typeBox dL_typeBox_23) (Nat.le_of_ble_eq_true rfl) rfl).trans ?_
  refine (rn_iconst (pc := 25) (dd bL_typeBox dL_typeBox_25) (by decide)).trans ?_
  exact rn_ireturn (pc := 26) (dd bL_typeBox dL_typeBox_26) (Or.inl rfl)
theorem Wx_typeBox_3 {h h1 : vH} {x1 : Int} {x2 : Int} {x3 : Int} {x4 : Int} {x5 : Int} (s : h 0 3 0 = 33) (e : vcl mX12_typeBox [(1, 3), (0, x1), (0, x2), (0, x3), (0, x4), (0, x5)] h = some (.inr "java/lang/IllegalStateException", h1)) : vcl mL_typeBox [(1, 3), (0, x1), (0, x2), (0, x3), (0, x4), (0, x5), (1, 338)] h = some (.inl (some (0, 3)), h1) := by
  refine vcl_as (L := [(1, 3), (0, x1), (0, x2), (0, x3), (0, x4), (0, x5), (1, 338), (9, 0)]) rfl ?_
  refine (rn_aload (pc := 0) (dd bL_typeBox dL_typeBox_0) rfl).trans ?_
  refine (rn_iconst (pc := 2) (dd bL_typeBox dL_typeBox_2) (by decide)).trans ?_
  refine (rn_aload_n (pc := 3) (dd bL_typeBox dL_typeBox_3) rfl).trans ?_
  refine (rn_iload_n (pc := 4) (dd bL_typeBox dL_typeBox_4) rfl).trans ?_
  refine (rn_iload_n (pc := 5) (dd bL_typeBox dL_typeBox_5) rfl).trans ?_
  refine (rn_iload_n (pc := 6) (dd bL_typeBox dL_typeBox_6) rfl).trans ?_
  refine (rn_iload (pc := 7) (dd bL_typeBox dL_typeBox_7) rfl).trans ?_
  refine (rn_iload (pc := 9) (dd bL_typeBox dL_typeBox_9) rfl).trans ?_
  refine (rg_virtual (pc := 11) (dd bL_typeBox dL_typeBox_11) rfl rfl (by decide) (kc := 33) rfl s (as := [(1, 3), (0, x1), (0, x2), (0, x3), (0, x4), (0, x5)]) rfl ⟨Nat.le_of_ble_eq_true rfl, Nat.le_of_ble_eq_true rfl, Nat.le_of_ble_eq_true rfl, Nat.le_of_ble_eq_true rfl⟩).trans ?_
  refine (vret_h2 e (x := (0, 16, 27, 25, "java/lang/IllegalStateException")) (by decide +kernel) rfl (dd bL_typeBox dL_typeBox_27) (Nat.le_of_ble_eq_true rfl) rfl).trans ?_
  refine (rn_iconst (pc := 29) (dd bL_typeBox dL_typeBox_29) (by decide)).trans ?_
  exact rn_ireturn (pc := 30) (dd bL_typeBox dL_typeBox_30) (Or.inl rfl)
theorem Wr_typeBox {n : Int} {h : vH} {x1 : Int} {x2 : Int} {x3 : Int} {x4 : Int} {x5 : Int} (J : JN n h) (hn : 0 ≤ n ∧ n ≤ 9000) (o1 : h 0 338 0 = 3) (o2 : h 1 338 0 = 1) : wrp n h (fun r => r) (vcl mL_typeBox [(1, 3), (0, x1), (0, x2), (0, x3), (0, x4), (0, x5), (1, 338)] h) (fun a => vcl mX13_typeBox [(1, 282), (0, x1), (0, x2), (0, x3), (0, x4), (0, x5)] a) := by
  have s : h 0 3 0 = 33 := J.1.1.1
  exact w_core (N_typeBox J hn) o1 o2 (fun h1 r p q e => Wv_typeBox s p q e) (fun h1 a nz e => by
    have c : kTb a x1 x2 x3 x4 x5 = 0 ∨ kTb a x1 x2 x3 x4 x5 = 1 ∨ kTb a x1 x2 x3 x4 x5 = 2 ∨ kTb a x1 x2 x3 x4 x5 = 3 := by
      unfold kTb
      repeat' split
      all_goals omega
    rcases c with c | c | c | c
    · exact absurd c nz
    · have e : vcl mX12_typeBox [(1, 3), (0, x1), (0, x2), (0, x3), (0, x4), (0, x5)] h = some (.inr (e3 (kTb a x1 x2 x3 x4 x5)), h1) := e
      show vcl mL_typeBox [(1, 3), (0, x1), (0, x2), (0, x3), (0, x4), (0, x5), (1, 338)] h = some (.inl (some (0, kTb a x1 x2 x3 x4 x5)), h1)
      rw [c] at e ⊢
      exact Wx_typeBox_1 s e
    · have e : vcl mX12_typeBox [(1, 3), (0, x1), (0, x2), (0, x3), (0, x4), (0, x5)] h = some (.inr (e3 (kTb a x1 x2 x3 x4 x5)), h1) := e
      show vcl mL_typeBox [(1, 3), (0, x1), (0, x2), (0, x3), (0, x4), (0, x5), (1, 338)] h = some (.inl (some (0, kTb a x1 x2 x3 x4 x5)), h1)
      rw [c] at e ⊢
      exact Wx_typeBox_2 s e
    · have e : vcl mX12_typeBox [(1, 3), (0, x1), (0, x2), (0, x3), (0, x4), (0, x5)] h = some (.inr (e3 (kTb a x1 x2 x3 x4 x5)), h1) := e
      show vcl mL_typeBox [(1, 3), (0, x1), (0, x2), (0, x3), (0, x4), (0, x5), (1, 338)] h = some (.inl (some (0, kTb a x1 x2 x3 x4 x5)), h1)
      rw [c] at e ⊢
      exact Wx_typeBox_3 s e
  )
theorem bL_draw : vmB mL_draw = cL_draw := rfl
theorem Wv_draw {h h1 : vH} {x1 : Int} {r : Int} (s : h 0 3 0 = 33) (a : h1 0 338 0 = 3) (b : h1 1 338 0 = 1) (e : vcl mX12_draw [(1, 3), (0, x1)] h = some (.inl (some (0, r)), h1)) : vcl mL_draw [(1, 3), (0, x1), (1, 338)] h = some (.inl (some (0, 0)), vup h1 2 338 0 r) := by
  refine vcl_as (L := [(1, 3), (0, x1), (1, 338), (9, 0)]) rfl ?_
  refine (rn_aload_n (pc := 0) (dd bL_draw dL_draw_0) rfl).trans ?_
  refine (rn_iconst (pc := 1) (dd bL_draw dL_draw_1) (by decide)).trans ?_
  refine (rn_aload_n (pc := 2) (dd bL_draw dL_draw_2) rfl).trans ?_
  refine (rn_iload_n (pc := 3) (dd bL_draw dL_draw_3) rfl).trans ?_
  refine (rg_virtual (pc := 4) (dd bL_draw dL_draw_4) rfl rfl (by decide) (kc := 33) rfl s (as := [(1, 3), (0, x1)]) rfl ⟨Nat.le_of_ble_eq_true rfl, Nat.le_of_ble_eq_true rfl, Nat.le_of_ble_eq_true rfl, Nat.le_of_ble_eq_true rfl⟩).trans ?_
  refine (vret_v e).trans ?_
  refine (rn_i2l (pc := 7) (dd bL_draw dL_draw_7)).trans ?_
  refine (rg_lastore (pc := 8) (dd bL_draw dL_draw_8) a b (by decide) (by decide)).trans ?_
  refine (rn_goto (t := 18) (pc := 9) (dd bL_draw dL_draw_9) rfl).trans ?_
  refine (rn_iconst (pc := 18) (dd bL_draw dL_draw_18) (by decide)).trans ?_
  exact rn_ireturn (pc := 19) (dd bL_draw dL_draw_19) (Or.inl rfl)
theorem Wx_draw_1 {h h1 : vH} {x1 : Int} (s : h 0 3 0 = 33) (e : vcl mX12_draw [(1, 3), (0, x1)] h = some (.inr "java/lang/IndexOutOfBoundsException", h1)) : vcl mL_draw [(1, 3), (0, x1), (1, 338)] h = some (.inl (some (0, 1)), h1) := by
  refine vcl_as (L := [(1, 3), (0, x1), (1, 338), (9, 0)]) rfl ?_
  refine (rn_aload_n (pc := 0) (dd bL_draw dL_draw_0) rfl).trans ?_
  refine (rn_iconst (pc := 1) (dd bL_draw dL_draw_1) (by decide)).trans ?_
  refine (rn_aload_n (pc := 2) (dd bL_draw dL_draw_2) rfl).trans ?_
  refine (rn_iload_n (pc := 3) (dd bL_draw dL_draw_3) rfl).trans ?_
  refine (rg_virtual (pc := 4) (dd bL_draw dL_draw_4) rfl rfl (by decide) (kc := 33) rfl s (as := [(1, 3), (0, x1)]) rfl ⟨Nat.le_of_ble_eq_true rfl, Nat.le_of_ble_eq_true rfl, Nat.le_of_ble_eq_true rfl, Nat.le_of_ble_eq_true rfl⟩).trans ?_
  refine (vret_h1 e (x := (0, 9, 12, 13, "java/lang/IndexOutOfBoundsException")) (by decide +kernel) rfl (dd bL_draw dL_draw_12) (Nat.le_of_ble_eq_true rfl) rfl).trans ?_
  refine (rn_iconst (pc := 13) (dd bL_draw dL_draw_13) (by decide)).trans ?_
  exact rn_ireturn (pc := 14) (dd bL_draw dL_draw_14) (Or.inl rfl)
theorem Wx_draw_2 {h h1 : vH} {x1 : Int} (s : h 0 3 0 = 33) (e : vcl mX12_draw [(1, 3), (0, x1)] h = some (.inr "java/lang/IllegalStateException", h1)) : vcl mL_draw [(1, 3), (0, x1), (1, 338)] h = some (.inl (some (0, 2)), h1) := by
  refine vcl_as (L := [(1, 3), (0, x1), (1, 338), (9, 0)]) rfl ?_
  refine (rn_aload_n (pc := 0) (dd bL_draw dL_draw_0) rfl).trans ?_
  refine (rn_iconst (pc := 1) (dd bL_draw dL_draw_1) (by decide)).trans ?_
  refine (rn_aload_n (pc := 2) (dd bL_draw dL_draw_2) rfl).trans ?_
  refine (rn_iload_n (pc := 3) (dd bL_draw dL_draw_3) rfl).trans ?_
  refine (rg_virtual (pc := 4) (dd bL_draw dL_draw_4) rfl rfl (by decide) (kc := 33) rfl s (as := [(1, 3), (0, x1)]) rfl ⟨Nat.le_of_ble_eq_true rfl, Nat.le_of_ble_eq_true rfl, Nat.le_of_ble_eq_true rfl, Nat.le_of_ble_eq_true rfl⟩).trans ?_
  refine (vret_h1 e (x := (0, 9, 15, 25, "java/lang/IllegalStateException")) (by decide +kernel) rfl (dd bL_draw dL_draw_15) (Nat.le_of_ble_eq_true rfl) rfl).trans ?_
  refine (rn_iconst (pc := 16) (dd bL_draw dL_draw_16) (by decide)).trans ?_
  exact rn_ireturn (pc := 17) (dd bL_draw dL_draw_17) (Or.inl rfl)
theorem Wr_draw {n : Int} {h : vH} {x1 : Int} (J : JN n h) (o1 : h 0 338 0 = 3) (o2 : h 1 338 0 = 1) : wrp n h (fun r => r) (vcl mL_draw [(1, 3), (0, x1), (1, 338)] h) (fun a => vcl mX13_draw [(1, 282), (0, x1)] a) := by
  have s : h 0 3 0 = 33 := J.1.1.1
  exact w_core (N_draw J) o1 o2 (fun h1 r p q e => Wv_draw s p q e) (fun h1 a nz e => by
    have c : kDw a x1 = 0 ∨ kDw a x1 = 1 ∨ kDw a x1 = 2 := by
      unfold kDw
      repeat' split
      all_goals omega
    rcases c with c | c | c
    · exact absurd c nz
    · have e : vcl mX12_draw [(1, 3), (0, x1)] h = some (.inr (e2 (kDw a x1)), h1) := e
      show vcl mL_draw [(1, 3), (0, x1), (1, 338)] h = some (.inl (some (0, kDw a x1)), h1)
      rw [c] at e ⊢
      exact Wx_draw_1 s e
    · have e : vcl mX12_draw [(1, 3), (0, x1)] h = some (.inr (e2 (kDw a x1)), h1) := e
      show vcl mL_draw [(1, 3), (0, x1), (1, 338)] h = some (.inl (some (0, kDw a x1)), h1)
      rw [c] at e ⊢
      exact Wx_draw_2 s e
  )
theorem bL_shift : vmB mL_shift = cL_shift := rfl
theorem Wv_shift {h h1 : vH} {x1 : Int} {r : Int} (s : h 0 3 0 = 33) (a : h1 0 338 0 = 3) (b : h1 1 338 0 = 1) (e : vcl mX12_shift [(1, 3), (0, x1)] h = some (.inl (some (0, r)), h1)) : vcl mL_shift [(1, 3), (0, x1), (1, 338)] h = some (.inl (some (0, 0)), vup h1 2 338 0 r) := by
  refine vcl_as (L := [(1, 3), (0, x1), (1, 338), (9, 0)]) rfl ?_
  refine (rn_aload_n (pc := 0) (dd bL_shift dL_shift_0) rfl).trans ?_
  refine (rn_iconst (pc := 1) (dd bL_shift dL_shift_1) (by decide)).trans ?_
  refine (rn_aload_n (pc := 2) (dd bL_shift dL_shift_2) rfl).trans ?_
  refine (rn_iload_n (pc := 3) (dd bL_shift dL_shift_3) rfl).trans ?_
  refine (rg_virtual (pc := 4) (dd bL_shift dL_shift_4) rfl rfl (by decide) (kc := 33) rfl s (as := [(1, 3), (0, x1)]) rfl ⟨Nat.le_of_ble_eq_true rfl, Nat.le_of_ble_eq_true rfl, Nat.le_of_ble_eq_true rfl, Nat.le_of_ble_eq_true rfl⟩).trans ?_
  refine (vret_v e).trans ?_
  refine (rn_i2l (pc := 7) (dd bL_shift dL_shift_7)).trans ?_
  refine (rg_lastore (pc := 8) (dd bL_shift dL_shift_8) a b (by decide) (by decide)).trans ?_
  refine (rn_goto (t := 15) (pc := 9) (dd bL_shift dL_shift_9) rfl).trans ?_
  refine (rn_iconst (pc := 15) (dd bL_shift dL_shift_15) (by decide)).trans ?_
  exact rn_ireturn (pc := 16) (dd bL_shift dL_shift_16) (Or.inl rfl)
theorem Wx_shift_1 {h h1 : vH} {x1 : Int} (s : h 0 3 0 = 33) (e : vcl mX12_shift [(1, 3), (0, x1)] h = some (.inr "java/lang/IndexOutOfBoundsException", h1)) : vcl mL_shift [(1, 3), (0, x1), (1, 338)] h = some (.inl (some (0, 1)), h1) := by
  refine vcl_as (L := [(1, 3), (0, x1), (1, 338), (9, 0)]) rfl ?_
  refine (rn_aload_n (pc := 0) (dd bL_shift dL_shift_0) rfl).trans ?_
  refine (rn_iconst (pc := 1) (dd bL_shift dL_shift_1) (by decide)).trans ?_
  refine (rn_aload_n (pc := 2) (dd bL_shift dL_shift_2) rfl).trans ?_
  refine (rn_iload_n (pc := 3) (dd bL_shift dL_shift_3) rfl).trans ?_
  refine (rg_virtual (pc := 4) (dd bL_shift dL_shift_4) rfl rfl (by decide) (kc := 33) rfl s (as := [(1, 3), (0, x1)]) rfl ⟨Nat.le_of_ble_eq_true rfl, Nat.le_of_ble_eq_true rfl, Nat.le_of_ble_eq_true rfl, Nat.le_of_ble_eq_true rfl⟩).trans ?_
  refine (vret_h1 e (x := (0, 9, 12, 13, "java/lang/IndexOutOfBoundsException")) (by decide +kernel) rfl (dd bL_shift dL_shift_12) (Nat.le_of_ble_eq_true rfl) rfl).trans ?_
  refine (rn_iconst (pc := 13) (dd bL_shift dL_shift_13) (by decide)).trans ?_
  exact rn_ireturn (pc := 14) (dd bL_shift dL_shift_14) (Or.inl rfl)
theorem Wr_shift {n : Int} {h : vH} {x1 : Int} (J : JN n h) (o1 : h 0 338 0 = 3) (o2 : h 1 338 0 = 1) : wrp n h (fun r => r) (vcl mL_shift [(1, 3), (0, x1), (1, 338)] h) (fun a => vcl mX13_shift [(1, 282), (0, x1)] a) := by
  have s : h 0 3 0 = 33 := J.1.1.1
  exact w_core (N_shift J) o1 o2 (fun h1 r p q e => Wv_shift s p q e) (fun h1 a nz e => by
    have c : kPn x1 = 0 ∨ kPn x1 = 1 := by
      unfold kPn
      repeat' split
      all_goals omega
    rcases c with c | c
    · exact absurd c nz
    · have e : vcl mX12_shift [(1, 3), (0, x1)] h = some (.inr (e3 (kPn x1)), h1) := e
      show vcl mL_shift [(1, 3), (0, x1), (1, 338)] h = some (.inl (some (0, kPn x1)), h1)
      rw [c] at e ⊢
      exact Wx_shift_1 s e
  )
