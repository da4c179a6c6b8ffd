theorem vthrows_spec {cc : ByteArray} {pc ik : Nat} {q : Nat × Nat × Bool} (h : vthrows cc pc ik = some q) : decode cc pc = .ok (.new ik, 3) ∧ decode cc (pc + 3) = .ok (.dup, 1) ∧ ((q.2.2 = false ∧ decode cc (pc + 4) = .ok (.ldc q.1, 2) ∧ decode cc (pc + 6) = .ok (.invokespecial q.2.1, 3) ∧ decode cc (pc + 9) = .ok (.athrow, 1)) ∨ (q.2.2 = true ∧ decode cc (pc + 4) = .ok (.ldc_w q.1, 3) ∧ decode cc (pc + 7) = .ok (.invokespecial q.2.1, 3) ∧ decode cc (pc + 10) = .ok (.athrow, 1))) := by
  unfold vthrows at h
  split at h
  · rename_i k is h1 h2 h3
    split at h
    · rename_i ic h4 h5
      split at h
      · rename_i hk
        subst hk
        cases h
        exact ⟨h1, h2, Or.inl ⟨rfl, h3, h4, h5⟩⟩
      · cases h
    · cases h
  · rename_i k is h1 h2 h3
    split at h
    · rename_i ic h4 h5
      split at h
      · rename_i hk
        subst hk
        cases h
        exact ⟨h1, h2, Or.inr ⟨rfl, h3, h4, h5⟩⟩
      · cases h
    · cases h
  · cases h
def vxnm : List String := ["java/lang/RuntimeException", "java/lang/Exception"]
theorem vxt_spec {o k : Nat} {E : String} (h : vxt o k = some E) : (k = 133 ∧ E = "java/lang/IndexOutOfBoundsException") ∨ (k = 153 ∧ E = "java/lang/IllegalArgumentException") ∨ (k = 346 ∧ E = "java/lang/IllegalStateException") := by
  unfold vxt at h
  split at h
  · have z := lk_mem h
    unfold vxtT_13 at z
    simp only [List.mem_cons, Prod.mk.injEq, List.not_mem_nil, or_false] at z
    exact z
  · cases h
/-- of each exception that the class throws: the words of its making -/
theorem vx_site {k : Nat} {E : String} {ic is : Nat} (hk : (k = 133 ∧ E = "java/lang/IndexOutOfBoundsException") ∨ (k = 153 ∧ E = "java/lang/IllegalArgumentException") ∨ (k = 346 ∧ E = "java/lang/IllegalStateException")) (ho : vxok E ic is = true) :
    Bundle.fit E = true ∧ (∀ n ∈ vxnm, Bundle.fit n = true) ∧ okw (.classLink "PaneLayers" k E) ∧ okw (.initialized E) ∧ is ∈ [338, 336, 340, 342, 344, 155, 169, 178, 348] ∧ (∀ w ∈ vx_atS "PaneLayers" ic E vxnm, okw w) ∧ ∀ w ∈ Cond.classLink "PaneLayers" k E :: Cond.initialized E :: vx_atS "PaneLayers" ic E vxnm, vx_ot w = true := by
  rcases hk with ⟨rfl, rfl⟩ | ⟨rfl, rfl⟩ | ⟨rfl, rfl⟩
  · have hs : ic = 137 ∧ is ∈ [338, 336, 340] := by
      simp only [vxok, Bool.or_eq_true, Bool.and_eq_true, beq_iff_eq, List.contains_iff_mem, String.reduceEq, false_and, or_false, true_and] at ho
      exact ho
    obtain ⟨rfl, hs⟩ := hs
    exact ⟨by decide +kernel, by decide +kernel, (okw_t (in_2 (List.mem_of_getElem? (i := 156) rfl)) rfl), (okw_t (in_1 (List.mem_of_getElem? (i := 17) rfl)) rfl), List.mem_append_left [342, 344, 155, 169, 178, 348] hs, fun w hw => ⟨vx_w0 w hw, vx_g0 w hw⟩, by decide +kernel⟩
  · have hs : ic = 157 ∧ is ∈ [342, 344, 155, 169, 178] := by
      simp only [vxok, Bool.or_eq_true, Bool.and_eq_true, beq_iff_eq, List.contains_iff_mem, String.reduceEq, false_and, or_false, false_or, true_and] at ho
      exact ho
    obtain ⟨rfl, hs⟩ := hs
    exact ⟨by decide +kernel, by decide +kernel, (okw_t (in_2 (List.mem_of_getElem? (i := 236) rfl)) rfl), (okw_t (in_1 (List.mem_of_getElem? (i := 21) rfl)) rfl), List.mem_append_left [348] (List.mem_append_right [338, 336, 340] hs), fun w hw => ⟨vx_w1 w hw, vx_g1 w hw⟩, by decide +kernel⟩
  · have hs : ic = 350 ∧ is ∈ [348] := by
      simp only [vxok, Bool.or_eq_true, Bool.and_eq_true, beq_iff_eq, List.contains_iff_mem, String.reduceEq, false_and, false_or, true_and] at ho
      exact ho
    obtain ⟨rfl, hs⟩ := hs
    exact ⟨by decide +kernel, by decide +kernel, (okw_t (in_4 (List.mem_of_getElem? (i := 148) rfl)) rfl), (okw_t (in_1 (List.mem_of_getElem? (i := 22) rfl)) rfl), List.mem_append_right [338, 336, 340, 342, 344, 155, 169, 178] hs, fun w hw => ⟨vx_w2 w hw, vx_g2 w hw⟩, by decide +kernel⟩
section FIN
variable {l : Launch} {D : va_G} {cA : Nat → ClassId} {base t0 b0 L0 : Nat} {xs : Nat → Int32} {p : Program} {e : Env} {R : Room} {s : State} {m : MethodId} {args : Array Value} {below : List Frame} {meth : Method} {c : Code} {M : vM}
variable {H : Heap} {locs : List Loc} {cells slots : Nat} {pc : Nat} {ls : Array Slot} {ad : Nat → Nat} {h : vH} {L S : List vv}
theorem snd_throw (C : Cx l D cA base t0 b0 L0 xs p R s m args meth c M) (X : Rl D cA base t0 b0 s M H locs ls ad h L) {k : Nat} {E : String} {q : Nat × Nat × Bool} (hx9 : vxt (vmC M) k = some E) (ht : vthrows (vmB M) pc k = some q) (ho : vxok E q.2.1 q.1 = true ∧ vmC M = 13 ∧ vmH M = [] ∧ 6 ≤ vmF M ∧ vcat S + 82 ≤ vmW M)
    (hc : (R.cells : Int) = cells + (vexc h 4 0 0 - h 4 0 0)) (hs : (R.slots : Int) = slots + (vexc h 5 0 0 - h 5 0 0)) {n0 : Int} {ad0 : Nat → Nat} (hex0 : ext n0 ad0 ad) (hxt : c.exceptionTable.toList = tableOf ((vmH M).map fun x => (x.1, x.2.1, x.2.2.1, x.2.2.2.1)) ∨ (vmH M = [] ∧ ∃ v, (.inr E : vR) = .inl v)) :
    W p l e R s m args below meth c H locs cells slots (vx_MQ below (Qg D cA base n0 ad0 (.inr E) (vexc h)) (Xg D cA base n0 ad0 (.inr E) (vexc h)) args s R.cells R.slots (fun q => base ≤ q)) (F0 m pc ls (S.map (rv ad))) := by
  obtain ⟨x1, x2, x3, x4, x5, x6, x7⟩ := X
  obtain ⟨hx, hb, hrt, hml, hown, hts, hlk, hnm, -, hfr, hlo, hst, hK, hv⟩ := C
  obtain ⟨ho1, ho2, ho3, ho4, ho5⟩ := ho
  obtain ⟨f1, f2, f3, f4, f5, f6, f7⟩ := vx_site (vxt_spec hx9) ho1
  obtain ⟨d0, d3, dd⟩ := vthrows_spec ht
  obtain ⟨tx, sa, hstr⟩ := hv.2.2.2.2.2.2.1 q.1 f5
  have e4 : vexc h 4 0 0 = h 4 0 0 + 1 := if_pos ⟨rfl, rfl, rfl⟩
  have e5 : vexc h 5 0 0 = h 5 0 0 + 6 := (if_neg (fun z => by have := z.2.2; omega)).trans (if_pos ⟨rfl, rfl, rfl⟩)
  rw [ho2] at hown
  have hXC : ∀ t : State, s.vm.Alike t.vm → H.size ≤ t.heap.size → (∀ q : Nat, q < H.size → t.heap[q]? = H[q]?) → Xg D cA base n0 ad0 (.inr E) (vexc h) E s t := by
    intro t _ hz hq
    refine ⟨rfl, ⟨ad, hex0, ?_, by rw [wo_exc]; exact x2⟩, Nat.le_trans x3.1 hz, fun q h1 h2 => ?_⟩
    · rw [wo_exc]
      intro k2 y hy
      exact (x1 k2 y hy).kept (hq _ (x1 k2 y hy).lt)
    · rw [hq q (Nat.lt_of_lt_of_le h1 x3.1)]
      exact x3.2.1 q h1 h2
  rcases dd with ⟨-, d4, d6, d9⟩ | ⟨-, d4, d6, d9⟩
  · exact vx_throwS (A := fun q => base ≤ q) (names := vxnm) hx hb hst hown f1 f2 (hts _ f3) (hts _ f4) hstr (fun w hw => hts _ (f6 w hw)) f7 hv.2.2.1 hv.2.2.2.1 x3 (x4.1.trans hml.symm) d0 d3 d4 d6 d9 (by rw [hxt.resolve_right (fun z => by obtain ⟨-, v, z⟩ := z; cases z), ho3]; intro x hx; cases hx) (by show 2 + 3 < R.frames; omega) (by rw [cat_sum]; show vcat S + (13 * (2 + 1) + 43) ≤ R.locals; omega) (by omega) (by omega) hlk hXC x3.2.2 (by omega) (by omega)
  · exact vx_throwSW (A := fun q => base ≤ q) (names := vxnm) hx hb hst hown f1 f2 (hts _ f3) (hts _ f4) hstr (fun w hw => hts _ (f6 w hw)) f7 hv.2.2.1 hv.2.2.2.1 x3 (x4.1.trans hml.symm) d0 d3 d4 d6 d9 (by rw [hxt.resolve_right (fun z => by obtain ⟨-, v, z⟩ := z; cases z), ho3]; intro x hx; cases hx) (by show 2 + 3 < R.frames; omega) (by rw [cat_sum]; show vcat S + (13 * (2 + 1) + 43) ≤ R.locals; omega) (by omega) (by omega) hlk hXC x3.2.2 (by omega) (by omega)
end FIN
