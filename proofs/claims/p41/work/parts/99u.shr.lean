/-! share -/
section SHR
variable {h h1 h2 H a b : vH} {op wt ls lk : Int → Int} {p w l m : Int}
def shR (w l m : Int) : Prop := (¬ (w < 1) ∧ ¬ (9 < w)) ∧ (¬ (l < 1) ∧ ¬ (8 < l)) ∧ (m = -1 ∨ ¬ (m < 1) ∧ ¬ (16 < m))
noncomputable def tS1 (a : vH) (p w l m : Int) : vH := tSt a (a 2 289) (ud (a 2 290) p w) (ud (a 2 291) p l) (ud (a 2 292) p m)
noncomputable def kSh (a : vH) (p w l m : Int) : Int := if 0 ≤ p ∧ p < 4 then (if (¬ (w < 1) ∧ ¬ (9 < w)) ∧ (¬ (l < 1) ∧ ¬ (8 < l)) ∧ (m = -1 ∨ ¬ (m < 1) ∧ ¬ (16 < m)) then (if ¬ a 2 289 p = 0 ∧ 24 < sSm (sN (a 2 289) (ud (a 2 291) p l) (ud (a 2 292) p m)) 4 then 3 else 0) else 2) else 1
noncomputable def tSh (a : vH) (p w l m : Int) : vH := if kSh a p w l m = 0 then tS1 (th 0 a) p w l m else th (kSh a p w l m) a
noncomputable def vSh (a : vH) (p w l m : Int) : Int := tS1 (th 0 a) p w l m 2 310 p
theorem kSh_0 : kSh a p w l m = 0 ↔ (0 ≤ p ∧ p < 4) ∧ shR w l m ∧ ¬ (¬ a 2 289 p = 0 ∧ 24 < sSm (sN (a 2 289) (ud (a 2 291) p l) (ud (a 2 292) p m)) 4) := by
  unfold kSh
  by_cases z1 : 0 ≤ p ∧ p < 4
  · rw [if_pos z1]
    by_cases z2 : (¬ (w < 1) ∧ ¬ (9 < w)) ∧ (¬ (l < 1) ∧ ¬ (8 < l)) ∧ (m = -1 ∨ ¬ (m < 1) ∧ ¬ (16 < m))
    · rw [if_pos z2]
      by_cases z3 : ¬ a 2 289 p = 0 ∧ 24 < sSm (sN (a 2 289) (ud (a 2 291) p l) (ud (a 2 292) p m)) 4
      · rw [if_pos z3]; exact ⟨fun w => absurd w (by decide), fun w => absurd z3 w.2.2⟩
      · rw [if_neg z3]; exact ⟨fun _ => ⟨z1, z2, z3⟩, fun _ => rfl⟩
    · rw [if_neg z2]; exact ⟨fun w => absurd w (by decide), fun w => absurd w.2.1 z2⟩
  · rw [if_neg z1]; exact ⟨fun w => absurd w (by decide), fun w => absurd w.1 z1⟩
theorem stB_sh (b : stB op wt ls lk) (x : shR w l m) : stB op (ud wt p w) (ud ls p l) (ud lk p m) := fun q u v => by
  obtain ⟨b1, b2, b3, b4⟩ := b q u v
  obtain ⟨x1, x2, x3⟩ := x
  unfold ud
  refine ⟨?_, ?_, ?_, b4⟩
  · split
    · omega
    · exact b1
  · split
    · omega
    · exact b2
  · split
    · omega
    · exact b3
theorem sN_cl (z : op p = 0) : sN op (ud ls p l) (ud lk p m) = sN op ls lk := funext (fun q => by
  unfold sN
  by_cases y : q = p
  · rw [y, if_pos z, if_pos z]
  · have e1 : ud ls p l q = ls q := if_neg y
    have e2 : ud lk p m q = lk q := if_neg y
    rw [e1, e2])
theorem sN_sh (z : ¬ op p = 0) : sSm (ud (sN op ls lk) p (if m = -1 then l else m)) 4 = sSm (sN op (ud ls p l) (ud lk p m)) 4 := by
  have e : ∀ q, ud (sN op ls lk) p (if m = -1 then l else m) q = sN op (ud ls p l) (ud lk p m) q := fun q => by
    by_cases y : q = p
    · rw [y]
      have e1 : ud ls p l p = l := if_pos rfl
      have e2 : ud lk p m p = m := if_pos rfl
      have e3 : ud (sN op ls lk) p (if m = -1 then l else m) p = (if m = -1 then l else m) := if_pos rfl
      unfold sN at e3 ⊢
      rw [if_neg z, e1, e2]
      exact e3
    · have e1 : ud ls p l q = ls q := if_neg y
      have e2 : ud lk p m q = lk q := if_neg y
      have e3 : ud (sN op ls lk) p (if m = -1 then l else m) q = sN op ls lk q := if_neg y
      rw [e3]
      unfold sN
      rw [e1, e2]
  rw [sSm_4, sSm_4, e, e, e, e]
end SHR

