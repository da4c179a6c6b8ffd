section RUN
variable {l : Launch} {D : va_G} {cA : Nat → ClassId} {base t0 b0 L0 : Nat} {xs : Nat → Int32} {p : Program} {e : Env} {R : Room} {s : State} {m : MethodId} {args : Array Value} {below : List Frame} {meth : Method} {c : Code} {M : vM}
variable {H : Heap} {locs : List Loc} {cells slots : Nat} {Q : State → Prop} {pc : Nat} {ls : Array Slot} {ad : Nat → Nat} {h : vH} {L S : List vv}
/-- behind a call that returns or throws -/
theorem snd_callg {mc ms : Nat} {st0 rest : List Value} {r : vR} {h' : vH} {a : Array Value} (hr : vx_Run p l e R s m args below meth c H locs cells slots mc ms (F0 m pc ls st0) rest (Qg D cA base (h 3 0 0) ad r h' a) (Xg D cA base (h 3 0 0) ad r h') (fun q => base ≤ q)) (hS : va_S (fun q => base ≤ q) s.heap H locs)
    (kx : ∀ (E : String) (ce : Cell) (q9 : Addr) (ad' : Nat → Nat) (H1 : Heap) (locs1 : List Loc), r = .inr E → ext (h 3 0 0) ad ad' → va_P D vwCl (wo cA ad' h') H1 → va_D (fun q => base ≤ q) (wo cA ad' h') → va_S (fun q => base ≤ q) s.heap H1 locs1 → H1[q9]? = some ce → ce.vm = .none → s.vm.findClass E = some ce.cls → vx_W p l e R s m args below meth c H1 locs1 (cells + mc) (slots + ms) Q (F0 m pc ls rest) q9)
    (kk : ∀ (v : Option vv) (ad' : Nat → Nat) (H1 : Heap) (locs1 : List Loc), r = .inl v → ext (h 3 0 0) ad ad' → va_P D vwCl (wo cA ad' h') H1 → va_D (fun q => base ≤ q) (wo cA ad' h') → va_S (fun q => base ≤ q) s.heap H1 locs1 → W p l e R s m args below meth c H1 locs1 (cells + mc) (slots + ms) Q (F0 m (pc + 3) ls ((v.map (rv ad')).toList ++ rest))) : W p l e R s m args below meth c H locs cells slots Q (F0 m pc ls st0) := by
  intro T hT X
  rcases hr T hT X with ⟨v, st₀, t, T', L2, h0, X', hL, e1, e2, ⟨v2, hrv, ⟨ad', hex, hv, hP, hD⟩, hF⟩, st⟩ | ⟨q, st₀, t, T', L2, E, ce, h0, X', hL, e1, e2, ⟨hrv, ⟨ad', hex, hP, hD⟩, hF⟩, hce, hcv, hcl, st⟩
  · cases hv
    obtain ⟨k1, k2, k3⟩ := vx_keep h0 e1 hS (fun _ _ z => z) (fun _ z => z) hL hF
    rw [← e1] at hP
    obtain ⟨t2, a1, b1⟩ := kk v2 ad' T'.heap (locs ++ L2) hrv hex hP hD k3 T' rfl X'
    exact ⟨t2, st t2 a1, b1⟩
  · obtain ⟨k1, k2, k3⟩ := vx_keep h0 e1 hS (fun _ _ z => z) (fun _ z => z) hL hF
    rw [← e1] at hP hce
    obtain ⟨t2, a1, b1⟩ := kx E ce q ad' T'.heap (locs ++ L2) hrv hex hP hD k3 hce hcv hcl T' rfl X'
    exact ⟨t2, st.trans a1, b1⟩
theorem vhand_split {hh : List vE} {E : String} {x : vE} (e : vhand hh pc E = some x) : ∃ pre suf, hh = pre ++ x :: suf ∧ (∀ z ∈ pre, ¬ (z.1 ≤ pc ∧ pc < z.2.1 ∧ z.2.2.2.2 = E)) ∧ x.1 ≤ pc ∧ pc < x.2.1 ∧ x.2.2.2.2 = E := by
  induction hh with
  | nil => cases e
  | cons a l ih =>
    unfold vhand at e
    split at e
    · rename_i z
      cases e
      exact ⟨[], l, rfl, fun y hy => (List.not_mem_nil hy).elim, z.1, z.2.1, z.2.2⟩
    · rename_i z
      obtain ⟨pre, suf, h1, h2, h3⟩ := ih e
      exact ⟨a :: pre, suf, by rw [h1]; rfl, fun y hy => by
        rcases List.mem_cons.mp hy with q | q
        · rw [q]; exact z
        · exact h2 y q, h3⟩
theorem asc_clr {i : Nat} (hi : i < L.length) : ∀ x ∈ asc ad (vset L i (9, 0)), x ∈ (asc ad L).filter (fun q => !(q.1 == i) && !(q.1 + 1 == i && q.2.category == 2)) := by
  intro ⟨j, w⟩ hx
  rcases List.mem_cons.mp (asc_set (ad := ad) hi _ hx) with q | q
  · cases q
    obtain ⟨u, hu, h2, -⟩ := mem_asc.mp hx
    rw [vset_at hi] at hu
    cases hu
    exact absurd h2 (by decide)
  · exact q
/-- a call's run, and what comes behind it -/
theorem snd_back {n : Nat} (ih : SndW l D cA base t0 b0 L0 xs n) (hL0 : L0 ≤ 100000) (hM : ∀ x ∈ vmH M, okw (.classLink (vcn (vmC M)) x.2.2.2.1 x.2.2.2.2) ∧ okw (.castable x.2.2.2.2 x.2.2.2.2) ∧ x.2.2.2.1 ≠ 0 ∧ x.2.2.2.2 ∈ vexh) (C : Cx l D cA base t0 b0 L0 xs p R s m args meth c M)
    {r r2 : vR} {h' h2 : vH} {rest : List vv} {mc ms : Nat} {st0 : List Value} {a : Array Value} {n0 : Int} {ad0 : Nat → Nat} (hn0 : n0 ≤ h 3 0 0) (hex0 : ext n0 ad0 ad)
    (o : okS L0 xs h L rest) (ok2 : hok L0 xs h2 ∧ hle h h2 ∧ okr (h2 3 0 0) r2) (ev : vret (vev n) M pc L rest (some (r2, h2)) = some (r, h')) (hxt : c.exceptionTable.toList = tableOf ((vmH M).map fun x => (x.1, x.2.1, x.2.2.1, x.2.2.2.1)) ∨ (vmH M = [] ∧ ∃ v, r = .inl v)) (X : Rl D cA base t0 b0 s M H locs ls ad h L) (hc : (R.cells : Int) = cells + (h' 4 0 0 - h 4 0 0)) (hs : (R.slots : Int) = slots + (h' 5 0 0 - h 5 0 0)) (hmc : (mc : Int) = h2 4 0 0 - h 4 0 0) (hms : (ms : Int) = h2 5 0 0 - h 5 0 0)
    (hr : vx_Run p l e R s m args below meth c H locs cells slots mc ms (F0 m pc ls st0) (rest.map (rv ad)) (Qg D cA base (h 3 0 0) ad r2 h2 a) (Xg D cA base (h 3 0 0) ad r2 h2) (fun q => base ≤ q)) :
    W p l e R s m args below meth c H locs cells slots (vx_MQ below (Qg D cA base n0 ad0 r h') (Xg D cA base n0 ad0 r h') args s R.cells R.slots (fun q => base ≤ q)) (F0 m pc ls st0) := by
  obtain ⟨x1, x2, x3, x4, x5, x6, x7⟩ := X
  obtain ⟨hx, hb, hrt, hml, hown, hts, hlk, hnm, -, hfr, hlo, hst, hK, hv⟩ := id C
  obtain ⟨o2, l2, k2⟩ := ok2
  have hb3 := o.1.1
  refine snd_callg hr x3 ?_ ?_
  · intro E ce q9 ad' H1 locs1 hr2 hex y1 y2 y3 hce hcv hcl
    subst hr2
    have ev : (if vmH M = [] then some (.inr E, h2) else (match vhand (vmH M) pc E with
      | some x => (match decode (vmB M) x.2.2.1 with
        | .ok (.astore_n k, 1) => if k.val < L.length then vev n M (x.2.2.1 + 1) (vset L k.val (9, 0)) [] h2 else none
        | .ok (.astore k, 2) => if k < L.length then vev n M (x.2.2.1 + 2) (vset L k (9, 0)) [] h2 else none
        | _ => none)
      | none => none)) = some (r, h') := ev
    by_cases hh : vmH M = []
    · rw [if_pos hh] at ev
      cases ev
      refine vx_out ?_ hlk hce hcv hcl ?_ y3.2.2 (by omega) (by omega)
      · rcases hxt with hxt | ⟨-, v, z⟩
        · rw [hxt, hh]; intro x hx; cases hx
        · cases z
      · intro t ht _
        exact ⟨rfl, ⟨ad', ext_trans hex0 hn0 hex, by rw [ht]; exact y1, y2⟩, y3.F ht⟩
    · rw [if_neg hh] at ev
      split at ev
      · rename_i x hx9
        obtain ⟨pre, suf, f1, f2, f3, f4, f5⟩ := vhand_split hx9
        have hxm : x ∈ vmH M := by rw [f1]; exact List.mem_append_right _ List.mem_cons_self
        obtain ⟨g1, g2, g3, g4⟩ := hM x hxm
        rw [f5] at g1 g2 g4
        have hsplit : c.exceptionTable.toList = (pre.map fun z => (⟨z.1, z.2.1, z.2.2.1, z.2.2.2.1⟩ : ExceptionTableEntry)) ++ (⟨x.1, x.2.1, x.2.2.1, x.2.2.2.1⟩ : ExceptionTableEntry) :: (suf.map fun z => (⟨z.1, z.2.1, z.2.2.1, z.2.2.2.1⟩ : ExceptionTableEntry)) := by
          rw [hxt.resolve_right (fun z => hh z.1), f1]
          unfold tableOf
          rw [List.map_map, List.map_append, List.map_cons]
          rfl
        refine vx_catch (name := E) hown _ _ _ hsplit ?_ (by show covers _ _ = true; simp [covers, f3, f4]) g3 (hts _ g1) (hts _ g2) hce hcv hcl ?_
        · intro z hz
          obtain ⟨z0, hz0, rfl⟩ := List.mem_map.mp hz
          have hzm : z0 ∈ vmH M := by rw [f1]; exact List.mem_append_left _ hz0
          obtain ⟨w1, w2, w3, w4⟩ := hM z0 hzm
          have nz := f2 z0 hz0
          by_cases hcov : z0.1 ≤ pc ∧ pc < z0.2.1
          · refine Or.inr ⟨w3, z0.2.2.2.2, hts _ w1, ?_⟩
            exact hv.2.2.2.2.2.2.2.2 E (List.mem_cons_of_mem _ g4) _ w4 (fun z => nz ⟨hcov.1, hcov.2, z.symm⟩)
          · refine Or.inl ?_
            show covers _ _ = false
            simp [covers]
            omega
        · have oL : ∀ k, okS L0 xs h2 (vset L k (9, 0)) [] := fun k => ok_set ⟨o2, fun v hv => vok_mono l2.1 (o.2.1 v hv), fun v hv => by cases hv⟩ trivial
          have x4' : lv_has ls (vmL M) (asc ad' L) := by rw [asc_ext hex o.2.1]; exact x4
          split at ev
          · rename_i k hlk1
            split at ev
            · rename_i hkl
              refine lv_astore_n (x := q9) (rest := []) hx hb hlk1 rfl x4' (by omega) rfl (fun ls2 h3 => ?_)
              exact ih M p e R s m args below meth c hM C _ _ _ h2 h' r ev hxt (oL _) H1 locs1 (cells + mc) (slots + ms) ls2 ad' ⟨y1, y2, y3, lv_more h3 fun z hz => List.mem_cons_of_mem _ (asc_clr hkl z hz), by rw [vset_len]; exact x5, (hex 1 (by omega)).trans x6, (hex 2 (by omega)).trans x7⟩ (by omega) (by omega) n0 ad0 (by have := l2.1; omega) (ext_trans hex0 hn0 hex)
            · cases ev
          · rename_i k hlk1
            split at ev
            · rename_i hkl
              refine lv_astore (x := q9) (rest := []) hx hb hlk1 x4' (by omega) rfl (fun ls2 h3 => ?_)
              exact ih M p e R s m args below meth c hM C _ _ _ h2 h' r ev hxt (oL _) H1 locs1 (cells + mc) (slots + ms) ls2 ad' ⟨y1, y2, y3, lv_more h3 fun z hz => List.mem_cons_of_mem _ (asc_clr hkl z hz), by rw [vset_len]; exact x5, (hex 1 (by omega)).trans x6, (hex 2 (by omega)).trans x7⟩ (by omega) (by omega) n0 ad0 (by have := l2.1; omega) (ext_trans hex0 hn0 hex)
            · cases ev
          · cases ev
      · cases ev
  · intro v ad' H1 locs1 hr2 hex y1 y2 y3
    subst hr2
    have ev : vev n M (pc + 3) L (v.toList ++ rest) h2 = some (r, h') := ev
    have o3 : okS L0 xs h2 L (v.toList ++ rest) := by
      have o4 : okS L0 xs h2 L rest := ok_heap o o2 l2.1
      cases v with
      | none => exact o4
      | some v => exact ok_push o4 k2
    have k := ih M p e R s m args below meth c hM C _ _ _ h2 h' r ev hxt o3 H1 locs1 (cells + mc) (slots + ms) ls ad' ⟨y1, y2, y3, by rw [asc_ext hex o.2.1]; exact x4, x5, (hex 1 (by omega)).trans x6, (hex 2 (by omega)).trans x7⟩ (by omega) (by omega) n0 ad0 (by have := l2.1; omega) (ext_trans hex0 hn0 hex)
    have e9 : (v.toList ++ rest).map (rv ad') = (v.map (rv ad')).toList ++ rest.map (rv ad) := by
      rw [List.map_append, map_ext hex o.2.2]
      cases v <;> rfl
    rw [e9] at k
    exact k
end RUN
