def kty : Nat → FieldType
  | 1 => .int
  | 2 => .boolean
  | 3 => .int
  | 4 => .object "PaneLayers$Line"
  | 5 => .object "PaneLayers$Pane"
  | _ => .object "java/lang/Object"
def ktys (cA : Nat → ClassId) : List (ClassId × FieldType) := [(cA 1, kty 1), (cA 2, kty 2), (cA 3, kty 3), (cA 4, kty 4), (cA 5, kty 5), (cA 6, kty 6)]
/-- what the system needs of the machine beside its own cells: the empty array of the lists, two statics of Throwable, the script, the texts of the exceptions -/
def vst (base t0 b0 L0 : Nat) (xs : Nat → Int32) (U : State) (H : Heap) : Prop :=
  va_Z "java/util/ArrayList" "DEFAULTCAPACITY_EMPTY_ELEMENTDATA" "[Ljava/lang/Object;" (.ref t0) (fun q => base ≤ q) U H ∧
  va_T (.object "java/lang/Object") t0 0 (fun _ => .null) (fun q => base ≤ q) U H ∧
  vx_Zq Bundle.tN "UNASSIGNED_STACK" Bundle.steD (fun q => base ≤ q) U H ∧ vx_Zq Bundle.tN "SUPPRESSED_SENTINEL" Bundle.listD (fun q => base ≤ q) U H ∧
  va_X b0 L0 xs U H ∧ b0 < base ∧ (∀ is ∈ [338, 336, 340, 342, 344, 155, 169, 178, 348], ∃ (tx : String) (sa : Nat), vk_R "PaneLayers" is tx sa U) ∧ base ≤ H.size ∧ ∀ E ∈ vexn, ∀ E' ∈ vexh, E ≠ E' → va_Nc E E' U
theorem vst_kept {base t0 b0 L0 : Nat} {xs : Nat → Int32} {U : State} {H H1 : Heap} (v : vst base t0 b0 L0 xs U H) (hz : H.size ≤ H1.size) (hq : ∀ a : Nat, a < H.size → ¬ base ≤ a → H1[a]? = H[a]?) : vst base t0 b0 L0 xs U H1 := by
  obtain ⟨h1, h2, h3, h4, h5, h6, h7, h8, h9⟩ := v
  exact ⟨h1.kept hq, h2.kept hq, h3.kept hq, h4.kept hq, h5.kept (hq b0 (by omega) (by omega)), h6, h7, Nat.le_trans h8 hz, h9⟩
theorem vst_warm {base t0 b0 L0 : Nat} {xs : Nat → Int32} {s U : State} {H : Heap} (hW : s.WarmedH U.vm) (v : vst base t0 b0 L0 xs s H) : vst base t0 b0 L0 xs U H := by
  obtain ⟨h1, h2, h3, h4, h5, h6, h7, h8, h9⟩ := v
  exact ⟨h1.moved hW.alike, h2.moved hW.alike, h3.moved hW.alike, h4.moved hW.alike, h5.moved hW.alike, h6, fun is hi => by
    obtain ⟨tx, sa, h⟩ := h7 is hi
    exact ⟨tx, sa, h.warm hW⟩, h8, fun E a E' b c => (h9 E a E' b c).moved hW.alike⟩
def asc (ad : Nat → Nat) (L : List vv) : List (Nat × Value) := (List.range L.length).filterMap fun i => match L[i]? with
  | some v => if v.1 ≤ 2 then some (i, rv ad v) else none
  | none => none
theorem mem_asc {ad : Nat → Nat} {L : List vv} {i : Nat} {w : Value} : (i, w) ∈ asc ad L ↔ ∃ v, L[i]? = some v ∧ v.1 ≤ 2 ∧ w = rv ad v := by
  unfold asc
  rw [List.mem_filterMap]
  constructor
  · rintro ⟨j, hj, e⟩
    split at e
    · rename_i v hv
      split at e
      · rename_i h2
        cases e
        exact ⟨v, hv, h2, rfl⟩
      · cases e
    · cases e
  · rintro ⟨v, hv, h2, e⟩
    refine ⟨i, List.mem_range.mpr (List.getElem?_eq_some_iff.mp hv).1, ?_⟩
    rw [hv]
    show (if v.1 ≤ 2 then some (i, rv ad v) else none) = _
    rw [if_pos h2, e]
theorem lv_more {ls : Array Slot} {n : Nat} {l l' : List (Nat × Value)} (h : lv_has ls n l) (hs : ∀ x ∈ l', x ∈ l) : lv_has ls n l' := ⟨h.1, h.2.1, fun q hq => h.2.2 q (hs q hq)⟩
theorem lv_loc {ad : Nat → Nat} {ls : Array Slot} {n i : Nat} {L : List vv} {v : vv} (h : lv_has ls n (asc ad L)) (hl : L[i]? = some v) (h2 : v.1 ≤ 2) : ls[i]? = some (.val (rv ad v)) := h.2.2 (i, rv ad v) (mem_asc.mpr ⟨v, hl, h2, rfl⟩)
theorem fm_congr {α β : Type} {f g : α → Option β} {l : List α} (h : ∀ a ∈ l, f a = g a) : l.filterMap f = l.filterMap g := by
  induction l with
  | nil => rfl
  | cons a l ih => rw [List.filterMap_cons, List.filterMap_cons, h a List.mem_cons_self, ih fun b hb => h b (List.mem_cons_of_mem _ hb)]
theorem asc_ext {n : Int} {ad ad' : Nat → Nat} {L : List vv} (x : ext n ad ad') (o : ∀ v ∈ L, vok n v) : asc ad' L = asc ad L := by
  unfold asc
  refine fm_congr fun i _ => ?_
  split
  · rename_i v hv
    rw [rv_ext x (o v (List.mem_of_getElem? hv))]
  · rfl
theorem map_ext {n : Int} {ad ad' : Nat → Nat} {S : List vv} (x : ext n ad ad') (o : ∀ v ∈ S, vok n v) : S.map (rv ad') = S.map (rv ad) := List.map_congr_left fun v hv => rv_ext x (o v hv)
theorem rv_cat {ad : Nat → Nat} {v : vv} (h : (rv ad v).category = 2) : v.1 = 2 := by
  unfold rv at h
  split at h
  · cases h
  · unfold va_rf at h
    split at h <;> cases h
  · rfl
  · cases h
theorem vset_at {L : List vv} {i : Nat} {v : vv} (hi : i < L.length) : (vset L i v)[i]? = some v := by
  unfold vset
  split
  · rw [List.getElem?_set_self hi]
  · rename_i k
    rw [List.getElem?_set_self]
    split
    · rw [List.length_set]; exact hi
    · exact hi
theorem vset_ne {L : List vv} {i j : Nat} {v u : vv} (hj : j ≠ i) (h : (vset L i v)[j]? = some u) (h2 : u.1 ≤ 2) : L[j]? = some u ∧ ¬ (j + 1 = i ∧ u.1 = 2) := by
  unfold vset at h
  split at h
  · rw [List.getElem?_set_ne (fun z => hj z.symm)] at h
    exact ⟨h, fun z => by omega⟩
  · rename_i k
    rw [List.getElem?_set_ne (fun z => hj z.symm)] at h
    split at h
    · rename_i z hz
      by_cases hk : k = j
      · subst hk
        rw [List.getElem?_set_self (List.getElem?_eq_some_iff.mp hz).1] at h
        cases h
        exact absurd h2 (by decide)
      · rw [List.getElem?_set_ne hk] at h
        exact ⟨h, fun z => hk (by omega)⟩
    · rename_i hz
      refine ⟨h, fun z => ?_⟩
      have e : k = j := by omega
      subst e
      obtain ⟨u1, u2⟩ := u
      have e2 : u1 = 2 := z.2
      subst e2
      exact hz u2 h
theorem asc_set {ad : Nat → Nat} {L : List vv} {i : Nat} {v : vv} (hi : i < L.length) : ∀ x ∈ asc ad (vset L i v), x ∈ (i, rv ad v) :: (asc ad L).filter (fun q => !(q.1 == i) && !(q.1 + 1 == i && q.2.category == 2)) := by
  intro ⟨j, w⟩ hx
  obtain ⟨u, hu, h2, e⟩ := mem_asc.mp hx
  by_cases hj : j = i
  · subst hj
    rw [vset_at hi] at hu
    cases hu
    rw [e]
    exact List.mem_cons_self
  · obtain ⟨h3, h4⟩ := vset_ne hj hu h2
    refine List.mem_cons_of_mem _ (List.mem_filter.mpr ⟨mem_asc.mpr ⟨u, h3, h2, e⟩, ?_⟩)
    subst e
    simp only [Bool.and_eq_true, Bool.not_eq_true', beq_eq_false_iff_ne, Bool.and_eq_false_iff]
    refine ⟨hj, ?_⟩
    by_cases q : j + 1 = i
    · exact Or.inr fun z => h4 ⟨q, rv_cat z⟩
    · exact Or.inl q
theorem asc_set2 {ad : Nat → Nat} {L : List vv} {i : Nat} {v : vv} (hi : i + 1 < L.length) : ∀ x ∈ asc ad (vset2 L i v), x ∈ (i, rv ad v) :: (asc ad L).filter (fun q => !(q.1 == i) && (!(q.1 == i + 1) && !(q.1 + 1 == i && q.2.category == 2))) := by
  intro ⟨j, w⟩ hx
  obtain ⟨u, hu, h2, e⟩ := mem_asc.mp hx
  unfold vset2 at hu
  by_cases hj1 : j = i + 1
  · subst hj1
    rw [List.getElem?_set_self (by rw [vset_len]; exact hi)] at hu
    cases hu
    exact absurd h2 (by decide)
  · rw [List.getElem?_set_ne (fun z => hj1 z.symm)] at hu
    by_cases hj : j = i
    · subst hj
      rw [vset_at (by omega)] at hu
      cases hu
      rw [e]
      exact List.mem_cons_self
    · obtain ⟨h3, h4⟩ := vset_ne hj hu h2
      refine List.mem_cons_of_mem _ (List.mem_filter.mpr ⟨mem_asc.mpr ⟨u, h3, h2, e⟩, ?_⟩)
      subst e
      simp only [Bool.and_eq_true, Bool.not_eq_true', beq_eq_false_iff_ne, Bool.and_eq_false_iff]
      refine ⟨hj, hj1, ?_⟩
      by_cases q : j + 1 = i
      · exact Or.inr fun z => h4 ⟨q, rv_cat z⟩
      · exact Or.inl q
/-- what stands fast for a method's body: the machine, the method, the tables' words, the statics -/
def Cx (l : Launch) (D : va_G) (cA : Nat → ClassId) (base t0 b0 L0 : Nat) (xs : Nat → Int32) (p : Program) (R : Room) (s : State) (m : MethodId) (args : Array Value) (meth : Method) (c : Code) (M : vM) : Prop :=
  p.tables.exec = Jvm.exec ∧ c.code = vmB M ∧ meth.sig.returnType = vmR M ∧ c.maxLocals = vmL M ∧ s.vm.findClass (vcn (vmC M)) = some m.cls ∧ (∀ w, okw w → w.before args s = true) ∧ meth.locks = false ∧ ((vmY M).name = "<init>" → meth.name = "<init>") ∧
  True ∧ R.frames = vmF M ∧ R.locals = vmW M ∧ l.stackTraces = false ∧ va_K D vwCl (ktys cA) s ∧ vst base t0 b0 L0 xs s s.heap
/-- the machine at a point of the body, and the pure machine -/
def Rl (D : va_G) (cA : Nat → ClassId) (base t0 b0 : Nat) (s : State) (M : vM) (H : Heap) (locs : List Loc) (ls : Array Slot) (ad : Nat → Nat) (h : vH) (L : List vv) : Prop :=
  va_P D vwCl (wo cA ad h) H ∧ va_D (fun q => base ≤ q) (wo cA ad h) ∧ va_S (fun q => base ≤ q) s.heap H locs ∧ lv_has ls (vmL M) (asc ad L) ∧ L.length = vmL M ∧ ad 1 = t0 ∧ ad 2 = b0
