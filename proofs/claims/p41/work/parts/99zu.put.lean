/-! a sign is put in: text on both sides -/
section PUT
variable {h h2 a b : vH} {p q P Q X l x s f t j st r l0 x0 : Int}
theorem sgR_sx {k e : Int} : sx a (sgR a k e) := fun kk r i z => if_neg (fun w => by rw [w.1] at z; cases z)
theorem tI_sx : sx a (tI a l x s) := sx_up rfl (sx_up rfl sgR_sx)
theorem tI_s {i : Int} : tI a l x s 2 283 i = if i = 80 * l + x then s else if 80 * l + x < i ∧ i ≤ 80 * l + a 2 284 l then a 2 283 (i - 1) else a 2 283 i := by
  unfold tI
  rw [vup_r (by decide), vup_2]
  by_cases z : i = 80 * l + x
  · rw [if_pos z, if_pos z]
  · rw [if_neg z, if_neg z]
    unfold sgR
    by_cases y : 80 * l + x < i ∧ i ≤ 80 * l + a 2 284 l
    · rw [if_pos y, if_pos ⟨rfl, rfl, y⟩]
    · rw [if_neg y, if_neg (fun w => y w.2.2)]
theorem tI_l {i : Int} : tI a l x s 2 284 i = if i = l then a 2 284 l + 1 else a 2 284 i := by
  unfold tI
  rw [vup_2]
  by_cases z : i = l
  · rw [if_pos z, if_pos z]
  · rw [if_neg z, if_neg z, vup_r (by decide)]
    exact if_neg (fun w => absurd w.2.1 (by decide))
theorem tI_o {k : Nat} {r i : Int} (n : ¬ (k = 2 ∧ (r = 283 ∨ r = 284))) : tI a l x s k r i = a k r i := by
  unfold tI vup sgR
  rw [if_neg (fun w => n ⟨w.1, Or.inr w.2.1⟩), if_neg (fun w => n ⟨w.1, Or.inl w.2.1⟩), if_neg (fun w => n ⟨w.1, Or.inl w.2.1⟩)]
theorem tI_eqTx : eqTx a (tI a l x s) := fun k r i n _ => tI_o (fun w => n ⟨w.1, by omega⟩)
/-- the class's line -/
def lnI (h : vH) (X x s n : Int) : vH := vup (vup (vcp h (X + 1) x (X + 1) (x + 1) (n - x)) 2 (X + 1) x s) 601 X 0 (n + 1)
theorem C_lnPut (sL : shLine h X) (hn : h 601 X 0 = f) (hx : 0 ≤ x ∧ x ≤ f) (h80 : f < 80) : vcl mX4_putIn [(1, X), (0, x), (0, s)] h = some (.inl none, lnI h X x s f) := by
  have e : h 601 X 0 = f := hn
  refine (show _ = _ from rX4_putIn_0 sL (by omega) (by omega) (by omega) (by omega) (by omega) (by omega) (by omega)).trans ?_
  rw [e, if_neg (by omega), if_neg (by omega), if_pos h80]
  rfl
theorem lnI_sx {n : Int} : sx h (lnI h X x s n) := sx_up rfl (sx_up rfl (sx_cp sx_rf))
theorem lnI_tF {n : Int} (hX : 6 ≤ X ∧ X ≤ 124) : tF h (lnI h X x s n) := fun k r i e => by
  unfold lnI vup vcp
  rw [if_neg (by omega), if_neg (by omega), if_neg (by omega)]
theorem lnI_k {n : Int} {k : Nat} {r i : Int} (e : ¬ k = 2 ∧ ¬ k = 601) : lnI h X x s n k r i = h k r i := (vup_k e.2).trans ((vup_k e.1).trans (vcp_k e.1))
theorem lnI_2 {n i : Int} (e : ¬ r = X + 1) : lnI h X x s n 2 r i = h 2 r i := (vup_k (by decide)).trans ((vup_r e).trans (vcp_r e))
theorem lnI_i {n i : Int} : lnI h X x s n 2 (X + 1) i = if i = x then s else if x < i ∧ i ≤ n then h 2 (X + 1) (i - 1) else h 2 (X + 1) i := by
  have e : lnI h X x s n 2 (X + 1) i = vup (vcp h (X + 1) x (X + 1) (x + 1) (n - x)) 2 (X + 1) x s 2 (X + 1) i := vup_k (by decide)
  rw [e, vup_2]
  by_cases z : i = x
  · rw [if_pos z, if_pos z]
  · rw [if_neg z, if_neg z]
    unfold vcp
    by_cases y : x < i ∧ i ≤ n
    · rw [if_pos y, if_pos ⟨rfl, rfl, by omega, by omega⟩, show x + (i - (x + 1)) = i - 1 by omega]
    · rw [if_neg y, if_neg (fun w => y (by omega))]
theorem cTx_I (c : cTx h a) (hl : 0 ≤ l ∧ l < a 1504 282 0) (hx : 0 ≤ x ∧ x ≤ a 2 284 l) (h80 : a 2 284 l < 80) (le : ∀ i, 0 ≤ i → i < 60 → a 2 284 i ≤ 80) : cTx (lnI h (h 2 5 l) x s (a 2 284 l)) (tI a l x s) := by
  obtain ⟨c1, c2, c3, c4, c5⟩ := c
  have l60 : l < 60 := by omega
  have r0 := c3 l hl.1 l60
  have e5 : ∀ i, lnI h (h 2 5 l) x s (a 2 284 l) 2 5 i = h 2 5 i := fun i => lnI_2 (by omega)
  have el : tI a l x s 1504 282 0 = a 1504 282 0 := tI_o (by decide)
  have X := lnI_sx (h := h) (X := h 2 5 l) (x := x) (s := s) (n := a 2 284 l)
  refine ⟨shText_sx X c1, ⟨(lnI_k (by decide)).trans (c2.1.trans el.symm), by rw [el]; exact c2.2⟩, fun i u v => ?_, fun i j u v w => ?_, fun i u v => ?_⟩
  · rw [e5]; exact ⟨shLine_sx X (c3 i u v).1, (c3 i u v).2⟩
  · rw [e5, e5]; exact c4 i j u v w
  · rw [el] at v
    obtain ⟨⟨d1, d2, d3⟩, d4⟩ := c5 i u v
    rw [e5]
    have ri := c3 i u (by omega)
    refine ⟨⟨shLine_sx X d1, ?_, fun j s1 t1 => ?_⟩, ?_⟩
    · rw [tI_l]
      by_cases z : i = l
      · rw [if_pos z, z]; exact vup_s
      · have n : ¬ h 2 5 i = h 2 5 l := by
          by_cases y : i < l
          · exact c4 i l u y l60
          · exact fun e => c4 l i hl.1 (by omega) (by omega) e.symm
        rw [if_neg z]
        exact (vup_r n).trans ((vup_k (by decide)).trans ((vcp_k (by decide)).trans d2))
    · rw [tI_l] at t1
      have li := le i u (by omega)
      rw [tI_s]
      by_cases z : i = l
      · rw [if_pos z] at t1
        rw [z] at d3 ⊢
        rw [lnI_i]
        by_cases y : j = x
        · rw [if_pos y, if_pos (by omega)]
        · rw [if_neg y, if_neg (show ¬ 80 * l + j = 80 * l + x by omega)]
          by_cases w : x < j ∧ j ≤ a 2 284 l
          · rw [if_pos w, if_pos (by omega), d3 (j - 1) (by omega) (by omega), show 80 * l + (j - 1) = 80 * l + j - 1 by omega]
          · rw [if_neg w, if_neg (by omega), d3 j (by omega) (by omega)]
      · rw [if_neg z] at t1
        have n : ¬ h 2 5 i + 1 = h 2 5 l + 1 := by
          by_cases y : i < l
          · have := c4 i l u y l60
            omega
          · have := c4 l i hl.1 (by omega) (by omega)
            omega
        rw [lnI_2 n, if_neg (by omega), if_neg (by omega)]
        exact d3 j s1 t1
    · rw [tI_o (by decide)]
      exact (lnI_k (by decide)).trans d4
end PUT

