/-! shape -/
def frT (P n j : Int) (h : vH) : vH := fun k r i => if k = 2 ∧ r = P + 26 ∧ n ≤ i ∧ i < j then -1 else h k r i
def fgt (P n : Int) (h : vH) : vH := vup (vup (frT P n 60 h) 714 P 0 0) 715 P 0 (-1)
section SHP
variable {h h1 a b : vH} {p P n l w d m : Int}
theorem frT_sx {j : Int} : sx h (frT P n j h) := fun k r i e => if_neg (fun z => by rw [z.1] at e; cases e)
theorem frT_up {j : Int} (hj : n ≤ j) : vup (frT P n j h) 2 (P + 26) j (-1) = frT P n (j + 1) h := by
  funext k r i
  unfold vup frT
  by_cases z : k = 2 ∧ r = P + 26 ∧ i = j
  · rw [if_pos z, if_pos (by omega)]
  · rw [if_neg z]
    by_cases y : k = 2 ∧ r = P + 26 ∧ n ≤ i ∧ i < j
    · rw [if_pos y, if_pos (by omega)]
    · rw [if_neg y, if_neg (by omega)]
theorem frT_0 : frT P n n h = h := by
  funext k r i
  exact if_neg (by omega)
theorem C_fgt (s : shPane h P) (hn : 0 ≤ n ∧ n ≤ 60) : vcl mX5_forgetFrom [(1, P), (0, n)] h = some (.inl none, fgt P n h) := by
  have loop : ∀ (f : Nat) (j : Int), j + f = 60 → n ≤ j → vrun mX5_forgetFrom 6 [(1, P), (0, n), (0, j)] [] (frT P n j h) = some (.inl none, fgt P n h) := by
    intro f
    induction f with
    | zero =>
      intro j hj hn2
      have e : j = 60 := by omega
      subst e
      exact (rX5_forgetFrom_6 (shPane_sx frT_sx s) (by omega)).trans (if_pos (by omega))
    | succ f ih =>
      intro j hj hn2
      refine (rX5_forgetFrom_6 (shPane_sx frT_sx s) (by omega)).trans ((if_neg (by omega)).trans ?_)
      rw [frT_up hn2]
      exact ih (j + 1) (by omega) (by omega)
  have e := loop (60 - n).toNat n (by omega) (Int.le_refl _)
  rw [frT_0] at e
  refine rX5_forgetFrom_0.trans ?_
  rw [show max n 0 = n by omega]
  exact e
theorem fgt_qF : qF P h (fgt P n h) := fun k r i e => by
  unfold fgt vup frT
  rw [if_neg (by omega), if_neg (by omega), if_neg (by omega)]
theorem fgt_r : fgt P n h 714 P 0 = 0 ∧ fgt P n h 715 P 0 = -1 ∧ ∀ i, fgt P n h 2 (P + 26) i = if n ≤ i ∧ i < 60 then -1 else h 2 (P + 26) i := by
  refine ⟨(vup_k (by decide)).trans vup_s, vup_s, fun i => ?_⟩
  have e : fgt P n h 2 (P + 26) i = frT P n 60 h 2 (P + 26) i := (vup_k (by decide)).trans (vup_k (by decide))
  rw [e]
  unfold frT
  by_cases z : n ≤ i ∧ i < 60
  · rw [if_pos z, if_pos ⟨rfl, rfl, z⟩]
  · rw [if_neg z, if_neg (fun w => z w.2.2)]
theorem cAll_fgt (c : cAll h a) (hp : 0 ≤ p ∧ p < 4) : cAll (fgt (138 + 36 * p) n h) a := by
  have cp := c.2.2.1 p hp.1 hp.2
  obtain ⟨k1, k2, k3⟩ := cp.2.1
  obtain ⟨r1, r2, r3⟩ := fgt_r (P := 138 + 36 * p) (n := n) (h := h)
  refine cAll_qC hp (qF_C fgt_qF) eqB_rf c ⟨cFix_qF fgt_qF k1.1 k1, ⟨fun l u v => ?_, Or.inl r1⟩, Or.inl r2⟩ (cTx_qF fgt_qF (by omega) c.2.1)
  rw [r3]
  split
  · exact Or.inl rfl
  · exact k2.1 l u v
/-- the width of a pane that has forgotten -/
def shC (P w d m : Int) (h : vH) : vH := vup (vup (vup h 708 P 0 w) 709 P 0 d) 710 P 0 m
def shM (p w d m : Int) (a : vH) : vH := vup (vup (vup a 2 286 p w) 2 287 p d) 2 288 p m
theorem shM_o {q : Int} (n : ¬ q = p) : shM p w d m a 2 286 q = a 2 286 q ∧ shM p w d m a 2 287 q = a 2 287 q ∧ shM p w d m a 2 288 q = a 2 288 q := by
  unfold shM vup
  refine ⟨?_, ?_, ?_⟩ <;> rw [if_neg (by omega), if_neg (by omega), if_neg (by omega)]
theorem shM_p : shM p w d m a 2 286 p = w ∧ shM p w d m a 2 287 p = d ∧ shM p w d m a 2 288 p = m := ⟨(vup_r (by decide)).trans ((vup_r (by decide)).trans vup_s), (vup_r (by decide)).trans vup_s, vup_s⟩
theorem lnE_sh {q l : Int} (n : ¬ q = p) : lnE a (shM p w d m a) q l := ⟨rfl, fun _ _ _ => rfl, rfl, fun _ => rfl, rfl, fun lo hi => by
  have e : ∀ (n : Nat) (k : Int), mVt (shM p w d m a) l lo hi n k = mVt a l lo hi n k := fun n k => mVt_loc n k (fun r i u _ _ => (vup_r (by unfold lyr at u; omega)).trans ((vup_r (by unfold lyr at u; omega)).trans (vup_r (by unfold lyr at u; omega))))
  exact e _ _, (shM_o n).1, (shM_o n).2.1⟩
theorem cAll_sh3 (c : cAll h a) (hp : 0 ≤ p ∧ p < 4) (f1 : h 714 (138 + 36 * p) 0 = 0) (f2 : h 715 (138 + 36 * p) 0 = -1) (f3 : ∀ i, 0 ≤ i → i < 60 → h 2 (138 + 36 * p + 26) i = -1) : cAll (shC (138 + 36 * p) w d m h) (shM p w d m a) := by
  obtain ⟨c1, c2, c3, c4, c5, c6⟩ := c
  refine ⟨shPL_sx (sx_up rfl (sx_up rfl (sx_up rfl sx_rf))) c1, c2, fun q u v => ?_, c4, c5, c6⟩
  obtain ⟨d1, ⟨⟨g1, g2, g3, g4, g5, g6, g7, g8⟩, d3, d4⟩, d5⟩ := c3 q u v
  refine ⟨d1, ?_, d5⟩
  by_cases z : q = p
  · subst z
    obtain ⟨e1, e2, e3⟩ := shM_p (p := q) (w := w) (d := d) (m := m) (a := a)
    refine ⟨⟨g1, g2, g3, g4, g5, ?_, ?_, ?_⟩, ⟨fun l s t => Or.inl (f3 l s t), Or.inl f1⟩, Or.inl f2⟩
    · rw [e1]; exact (vup_k (by decide)).trans ((vup_k (by decide)).trans vup_s)
    · rw [e2]; exact (vup_k (by decide)).trans vup_s
    · rw [e3]; exact vup_s
  · obtain ⟨e1, e2, e3⟩ := shM_o (w := w) (d := d) (m := m) (a := a) z
    have o : ¬ 138 + 36 * q = 138 + 36 * p := by omega
    have r : ∀ k, shC (138 + 36 * p) w d m h k (138 + 36 * q) 0 = h k (138 + 36 * q) 0 := fun k => (if_neg (fun w => o w.2.1)).trans ((if_neg (fun w => o w.2.1)).trans (if_neg (fun w => o w.2.1)))
    have d3' : cCnt (shC (138 + 36 * p) w d m h) a q (138 + 36 * q) := d3
    have d4' : cLd (shC (138 + 36 * p) w d m h) a q (138 + 36 * q) := d4
    refine ⟨⟨g1, g2, g3, g4, g5, ?_, ?_, ?_⟩, cCnt_loc (a := a) rfl (fun _ _ _ => lnE_sh z) d3', cLd_loc (a := a) rfl (fun _ _ _ => lnE_sh z) d4'⟩
    · rw [e1]; exact (r _).trans g6
    · rw [e2]; exact (r _).trans g7
    · rw [e3]; exact (r _).trans g8
theorem shC_fgt : fgt P n (shC P w d m h) = shC P w d m (fgt P n h) := by
  funext k r i
  unfold fgt shC vup frT
  dsimp only
  by_cases z : k = 708 ∨ k = 709 ∨ k = 710
  · have n1 : ¬ (k = 715 ∧ r = P ∧ i = 0) := by omega
    have n2 : ¬ (k = 714 ∧ r = P ∧ i = 0) := by omega
    have n3 : ¬ (k = 2 ∧ r = P + 26 ∧ n ≤ i ∧ i < 60) := by omega
    simp only [if_neg n1, if_neg n2, if_neg n3]
  · have n1 : ¬ (k = 710 ∧ r = P ∧ i = 0) := by omega
    have n2 : ¬ (k = 709 ∧ r = P ∧ i = 0) := by omega
    have n3 : ¬ (k = 708 ∧ r = P ∧ i = 0) := by omega
    simp only [if_neg n1, if_neg n2, if_neg n3]
end SHP

