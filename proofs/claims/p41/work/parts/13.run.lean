noncomputable def vret (R : vF) (m : vM) (pc : Nat) (L rest : List vv) (o : Option (vR × vH)) : Option (vR × vH) := match o with
  | none => none
  | some (.inl v, h) => R m (pc + 3) L (v.toList ++ rest) h
  | some (.inr E, h) => if vmH m = [] then some (.inr E, h) else (match vhand (vmH m) pc E with
    | some x => (match decode (vmB m) x.2.2.1 with
      | .ok (.astore_n k, 1) => if k.val < L.length then R m (x.2.2.1 + 1) (vset L k.val (9, 0)) [] h else none
      | .ok (.astore k, 2) => if k < L.length then R m (x.2.2.1 + 2) (vset L k (9, 0)) [] h else none
      | _ => none)
    | none => none)
noncomputable def vstep (R : vF) : vF := fun m pc L S h => match vact m pc L S h with
  | none => none
  | some (.inl r) => some r
  | some (.inr (.inl q)) => R m q.1 q.2.1 q.2.2.1 q.2.2.2
  | some (.inr (.inr q)) => vret R m pc L q.2.2 (R q.1 0 (vent (vmL q.1) q.2.1) [] h)
noncomputable def vev : Nat → vF
  | 0 => fun _ _ _ _ _ => none
  | n + 1 => vstep (vev n)
def vle (R R' : vF) : Prop := ∀ m pc L S h r, R m pc L S h = some r → R' m pc L S h = some r
theorem vret_mono {R R' : vF} (hR : vle R R') {m : vM} {pc : Nat} {L rest : List vv} {o : Option (vR × vH)} {r : vR × vH} (h : vret R m pc L rest o = some r) : vret R' m pc L rest o = some r := by
  unfold vret at h ⊢
  split at h
  · cases h
  · exact hR _ _ _ _ _ _ h
  · split at h
    · rename_i e; rw [if_pos e]; exact h
    · rename_i e; rw [if_neg e]
      split at h
      · split at h
        · split at h
          · rename_i e1; rw [if_pos e1]; exact hR _ _ _ _ _ _ h
          · cases h
        · split at h
          · rename_i e1; rw [if_pos e1]; exact hR _ _ _ _ _ _ h
          · cases h
        · cases h
      · cases h
theorem vstep_mono {R R' : vF} (hR : vle R R') : vle (vstep R) (vstep R') := by
  intro m pc L S h r e
  unfold vstep at e ⊢
  split at e
  · cases e
  · exact e
  · exact hR _ _ _ _ _ _ e
  · rename_i q _
    cases hc : R q.1 0 (vent (vmL q.1) q.2.1) [] h with
    | none => rw [hc] at e; cases e
    | some z =>
      rw [hc] at e
      rw [hR _ _ _ _ _ _ hc]
      exact vret_mono hR e
theorem vev_succ (n : Nat) : vle (vev n) (vev (n + 1)) := by
  induction n with
  | zero => intro m pc L S h r e; cases e
  | succ n ih => exact vstep_mono ih
theorem vev_le {n k : Nat} (h : n ≤ k) : vle (vev n) (vev k) := by
  induction h with
  | refl => intro m pc L S h r e; exact e
  | step _ ih => intro m pc L S h r e; exact vev_succ _ _ _ _ _ _ _ (ih _ _ _ _ _ _ e)
noncomputable def vrun : vF := fun m pc L S h => @dite _ (∃ r, ∃ n, vev n m pc L S h = some r) (Classical.propDecidable _) (fun e => some (Classical.choose e)) (fun _ => none)
theorem vrun_iff {m : vM} {pc : Nat} {L S : List vv} {h : vH} {r : vR × vH} : vrun m pc L S h = some r ↔ ∃ n, vev n m pc L S h = some r := by
  unfold vrun
  constructor
  · intro e
    split at e
    · rename_i hx
      cases e
      exact Classical.choose_spec hx
    · cases e
  · intro ⟨n, e⟩
    rw [dif_pos ⟨r, n, e⟩]
    obtain ⟨k, e2⟩ := Classical.choose_spec (⟨r, n, e⟩ : ∃ r, ∃ n, vev n m pc L S h = some r)
    have a := vev_le (Nat.le_max_left n k) _ _ _ _ _ _ e
    have b := vev_le (Nat.le_max_right n k) _ _ _ _ _ _ e2
    rw [a] at b
    exact b.symm
theorem vev_run (n : Nat) : vle (vev n) vrun := fun _ _ _ _ _ _ e => vrun_iff.mpr ⟨n, e⟩
theorem vret_cont {m : vM} {pc : Nat} {L rest : List vv} {o : Option (vR × vH)} {r : vR × vH} (h : vret vrun m pc L rest o = some r) : ∃ n, vret (vev n) m pc L rest o = some r := by
  unfold vret at h ⊢
  split at h
  · cases h
  · exact vrun_iff.mp h
  · split at h
    · rename_i e; exact ⟨0, by rw [if_pos e]; exact h⟩
    · rename_i e
      split at h
      · split at h
        · split at h
          · rename_i e1; obtain ⟨n, hn⟩ := vrun_iff.mp h; exact ⟨n, by rw [if_neg e, if_pos e1]; exact hn⟩
          · cases h
        · split at h
          · rename_i e1; obtain ⟨n, hn⟩ := vrun_iff.mp h; exact ⟨n, by rw [if_neg e, if_pos e1]; exact hn⟩
          · cases h
        · cases h
      · cases h
theorem vrun_eq : vrun = vstep vrun := by
  funext m pc L S h
  apply Option.ext
  intro r
  constructor
  · intro e
    obtain ⟨n, e⟩ := vrun_iff.mp e
    cases n with
    | zero => cases e
    | succ n => exact vstep_mono (vev_run n) _ _ _ _ _ _ e
  · intro e
    have e' := e
    unfold vstep at e
    split at e
    · cases e
    · rename_i ha
      exact vrun_iff.mpr ⟨1, by show vstep (vev 0) m pc L S h = _; unfold vstep; rw [ha]; exact e⟩
    · rename_i ha
      obtain ⟨n, e⟩ := vrun_iff.mp e
      exact vrun_iff.mpr ⟨n + 1, by show vstep (vev n) m pc L S h = _; unfold vstep; rw [ha]; exact e⟩
    · rename_i q ha
      cases hc : vrun q.1 0 (vent (vmL q.1) q.2.1) [] h with
      | none => rw [hc] at e; cases e
      | some z =>
        rw [hc] at e
        obtain ⟨n1, h1⟩ := vrun_iff.mp hc
        obtain ⟨n2, h2⟩ := vret_cont e
        refine vrun_iff.mpr ⟨max n1 n2 + 1, ?_⟩
        show vstep (vev (max n1 n2)) m pc L S h = _
        unfold vstep
        rw [ha]
        show vret (vev (max n1 n2)) m pc L q.2.2 (vev (max n1 n2) q.1 0 (vent (vmL q.1) q.2.1) [] h) = _
        rw [vev_le (Nat.le_max_left n1 n2) _ _ _ _ _ _ h1]
        exact vret_mono (vev_le (Nat.le_max_right n1 n2)) h2
/-- a call of a method, as a function of its arguments and the heap -/
noncomputable def vcl (y : vM) (as : List vv) (h : vH) : Option (vR × vH) := vrun y 0 (vent (vmL y) as) [] h
section RN
variable {m : vM} {pc : Nat} {L S : List vv} {h : vH}
theorem rn_next {q : Nat × List vv × List vv × vH} (a : vact m pc L S h = some (.inr (.inl q))) : vrun m pc L S h = vrun m q.1 q.2.1 q.2.2.1 q.2.2.2 := by
  rw [show vrun m pc L S h = vstep vrun m pc L S h by rw [← vrun_eq]]
  unfold vstep
  rw [a]
theorem rn_done {r : vR × vH} (a : vact m pc L S h = some (.inl r)) : vrun m pc L S h = some r := by
  rw [show vrun m pc L S h = vstep vrun m pc L S h by rw [← vrun_eq]]
  unfold vstep
  rw [a]
theorem rn_callR {y : vM} {as rest : List vv} (a : vact m pc L S h = some (.inr (.inr (y, as, rest)))) : vrun m pc L S h = vret vrun m pc L rest (vcl y as h) := by
  rw [show vrun m pc L S h = vstep vrun m pc L S h by rw [← vrun_eq]]
  unfold vstep
  rw [a]
  rfl
end RN
