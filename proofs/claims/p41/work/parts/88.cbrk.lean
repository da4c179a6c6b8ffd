/-- the cluster at a number of a sequence -/
def gx (L : List Int) (i : Int) : Int := L.getD i.toNat 0
theorem gx_get {L : List Int} {i : Nat} (h : i < L.length) : L[i]? = some (gx L i) := by
  unfold gx
  rw [show ((i : Int).toNat) = i by omega, List.getD_eq_getElem?_getD, List.getElem?_eq_getElem h]
  rfl
theorem gx_drop {L : List Int} {i : Nat} (h : i < L.length) : L.drop i = gx L i :: L.drop (i + 1) := by
  have e := gx_get h
  rw [List.getElem?_eq_getElem h] at e
  rw [List.drop_eq_getElem_cons h, Option.some.inj e]
theorem gx_lt {L : List Int} (p : L.Pairwise (· < ·)) {i j : Nat} (a : i < j) (b : j < L.length) : gx L i < gx L j := by
  have e1 := gx_get (L := L) (i := i) (by omega)
  have e2 := gx_get (L := L) (i := j) b
  rw [List.getElem?_eq_getElem (by omega)] at e1 e2
  rw [← Option.some.inj e1, ← Option.some.inj e2]
  exact List.pairwise_iff_getElem.mp p i j (by omega) b a
theorem gx_inj {L : List Int} (p : L.Pairwise (· < ·)) {i j : Nat} (a : i < L.length) (b : j < L.length) (e : gx L i = gx L j) : i = j := by
  rcases Nat.lt_trichotomy i j with c | c | c
  · have := gx_lt p c b; omega
  · exact c
  · have := gx_lt p c a; omega
theorem Ch_pw {I : Int → Int} {o : Int} : ∀ (f : Nat) (k : Int), (Ch I o f k).Pairwise (· < ·)
  | 0, _ => List.Pairwise.nil
  | f + 1, k => by
    by_cases e : I k = o
    · rw [Ch_yes e]
      refine List.Pairwise.cons (fun j hj => ?_) (Ch_pw f (k + 1))
      have := (Ch_mem f (k + 1) j).mp hj
      omega
    · rw [Ch_no e]; exact Ch_pw f (k + 1)
theorem gx_mem {L : List Int} {c : Int} : c ∈ L ↔ ∃ i : Nat, i < L.length ∧ c = gx L i := by
  constructor
  · intro h
    obtain ⟨i, hi, e⟩ := List.getElem_of_mem h
    have e1 := gx_get (L := L) hi
    rw [List.getElem?_eq_getElem hi] at e1
    exact ⟨i, hi, by rw [← e, Option.some.inj e1]⟩
  · rintro ⟨i, hi, rfl⟩
    exact List.mem_of_getElem? (gx_get hi)
theorem fig_wy {g : Int} (h : fig g) : wy g = -1 := by
  unfold fig at h
  unfold wy
  rw [if_neg (by omega), if_neg (by omega)]
section CB
variable {h : vH} {D B : Int} {L : List Int} {s : Int → Int}
theorem C_firstWay (sD : shDirections h D) (hc : h 207 D 0 = (L.length : Int)) (h131 : L.length ≤ 131) (hw : ∀ i : Nat, i < L.length → h 2 (D + 5) i = wy (s (gx L i))) : vcl mX0_firstWay [(1, D)] h = some (.inl (some (0, fW s L)), h) := by
  have loop : ∀ (f i : Nat), i + f = L.length → vrun mX0_firstWay 2 [(1, D), (0, i)] [] h = some (.inl (some (0, fW s (L.drop i))), h) := by
    intro f
    induction f with
    | zero =>
      intro i hi
      rw [rX0_firstWay_2 sD (by omega), if_pos (by omega), List.drop_of_length_le (by omega)]
      rfl
    | succ f ih =>
      intro i hi
      have il : i < L.length := by omega
      rw [rX0_firstWay_2 sD (by omega), if_neg (by omega), if_neg (by omega), hw i il, gx_drop il]
      unfold fW
      by_cases c : wy (s (gx L i)) = -1
      · rw [if_pos c, if_pos c]
        exact ih (i + 1) (by omega)
      · rw [if_neg c, if_neg c]
  exact rX0_firstWay_0.trans (loop L.length 0 (by omega))
theorem C_turnDigits (sD : shDirections h D) (hp : L.Pairwise (· < ·)) (hc : h 207 D 0 = (L.length : Int)) (h131 : L.length ≤ 131) (hB : h 208 D 0 = B) (hB0 : 0 ≤ B) (hs : ∀ i : Nat, i < L.length → h 2 (D + 4) i = s (gx L i)) (hw : ∀ i : Nat, i < L.length → h 2 (D + 5) i = wy (s (gx L i))) : ∃ h2, vcl mX0_turnDigits [(1, D)] h = some (.inl none, h2) ∧ yF D 5 5 1 0 h h2 ∧ ∀ i : Nat, i < L.length → h2 2 (D + 5) i = stW s (B % 2) L (gx L i) := by
  have loop : ∀ (f i : Nat) (x : Int) (h1 : vH), i + f = L.length → yF D 5 5 1 0 h h1 → (∀ j : Nat, j < L.length → h1 2 (D + 5) j = if j < i then stW s (B % 2) L (gx L j) else wy (s (gx L j))) → (∀ j : Nat, i ≤ j → j < L.length → stW s (B % 2) L (gx L j) = stW s x (L.drop i) (gx L j)) → ∃ h2, vrun mX0_turnDigits 9 [(1, D), (0, x), (0, i)] [] h1 = some (.inl none, h2) ∧ yF D 5 5 1 0 h h2 ∧ ∀ i : Nat, i < L.length → h2 2 (D + 5) i = stW s (B % 2) L (gx L i) := by
    intro f
    induction f with
    | zero =>
      intro i x h1 hi hF hst _
      have e0 : h1 207 D 0 = (L.length : Int) := (hF _ _ _ (by omega)).trans hc
      refine ⟨h1, ?_, hF, fun j hj => (hst j hj).trans (if_pos (by omega))⟩
      rw [rX0_turnDigits_9 (shDirections_sx (yF_0 hF) sD) (by omega), if_pos (by omega)]
    | succ f ih =>
      intro i x h1 hi hF hst hsf
      have il : i < L.length := by omega
      have sD1 := shDirections_sx (yF_0 hF) sD
      have e0 : h1 207 D 0 = (L.length : Int) := (hF _ _ _ (by omega)).trans hc
      have e1 : h1 2 (D + 4) i = s (gx L i) := (hF _ _ _ (by omega)).trans (hs i il)
      have e2 : h1 2 (D + 5) i = wy (s (gx L i)) := (hst i il).trans (if_neg (by omega))
      have fi : stW s (B % 2) L (gx L i) = if wy (s (gx L i)) = -1 then @ite _ (fig (s (gx L i))) (Classical.propDecidable _) x (-1) else wy (s (gx L i)) := by
        rw [hsf i (Nat.le_refl _) il, gx_drop il]
        unfold stW
        dsimp only
        rw [if_pos rfl]
      have nx : ∀ j : Nat, i + 1 ≤ j → j < L.length → stW s (B % 2) L (gx L j) = stW s (if wy (s (gx L i)) = -1 then x else wy (s (gx L i))) (L.drop (i + 1)) (gx L j) := by
        intro j a b
        rw [hsf j (by omega) b, gx_drop il]
        have ne : ¬ gx L j = gx L i := by have := gx_lt hp (show i < j by omega) b; omega
        have st : stW s x (gx L i :: L.drop (i + 1)) (gx L j) = if gx L j = gx L i then (if wy (s (gx L i)) = -1 then @ite _ (fig (s (gx L i))) (Classical.propDecidable _) x (-1) else wy (s (gx L i))) else stW s (if wy (s (gx L i)) = -1 then x else wy (s (gx L i))) (L.drop (i + 1)) (gx L j) := rfl
        rw [st, if_neg ne]
      by_cases c : ¬ (s (gx L i) < 48) ∧ ¬ (57 < s (gx L i))
      · have w := fig_wy (g := s (gx L i)) c
        rw [if_pos w, if_pos (show fig (s (gx L i)) from c)] at fi
        simp only [w, if_pos] at nx
        obtain ⟨h2, a1, a2⟩ := ih (i + 1) x (vup h1 2 (D + 5) i x) (by omega) (yF_up hF (Or.inl ⟨rfl, by omega, by omega⟩)) (fun j hj => by
          rw [vup_2]
          by_cases z : j = i
          · rw [if_pos (by omega), if_pos (by omega), z, fi]
          · rw [if_neg (by omega), hst j hj]
            by_cases w : j < i
            · rw [if_pos w, if_pos (by omega)]
            · rw [if_neg w, if_neg (by omega)]) nx
        refine ⟨h2, ?_, a2⟩
        rw [rX0_turnDigits_9 sD1 (by omega), if_neg (by omega), if_neg (by omega), e1, if_pos c, if_pos c]
        exact a1
      · obtain ⟨h2, a1, a2⟩ := ih (i + 1) (if wy (s (gx L i)) = -1 then x else wy (s (gx L i))) h1 (by omega) hF (fun j hj => by
          rw [hst j hj]
          by_cases z : j = i
          · rw [if_neg (by omega), if_pos (by omega), z, fi, if_neg (show ¬ fig (s (gx L i)) from c)]
            by_cases w : wy (s (gx L i)) = -1
            · rw [if_pos w, w]
            · rw [if_neg w]
          · by_cases w : j < i
            · rw [if_pos w, if_pos (by omega)]
            · rw [if_neg w, if_neg (by omega)]) nx
        refine ⟨h2, ?_, a2⟩
        rw [rX0_turnDigits_9 sD1 (by omega), if_neg (by omega), if_neg (by omega), e1, if_neg c, if_neg c, e2]
        exact a1
  obtain ⟨h2, a1, a2⟩ := loop L.length 0 (B % 2) h (by omega) yF_rf (fun j hj => (hw j hj).trans (if_neg (by omega)).symm) (fun j _ _ => rfl)
  refine ⟨h2, ?_, a2⟩
  refine (rX0_turnDigits_0 sD (by omega)).trans ?_
  rw [hB]
  exact a1
/-- the last open one with a sign -/
def cutI (S : Int → Int) (g : Int) : List Int → Option (Int × List Int)
  | [] => none
  | o :: t => if S o = g then some (o, t) else cutI S g t
theorem cutI_in {S : Int → Int} {g : Int} : ∀ (q : List Int) (a : Int) (t : List Int), cutI S g q = some (a, t) → a ∈ q ∧ (∀ j ∈ t, j ∈ q) ∧ t.length < q.length ∧ (∀ (h : vH) (r : Int), stA h r q → stA h r (a :: t))
  | [], _, _, e => by cases e
  | o :: q, a, t, e => by
    unfold cutI at e
    by_cases c : S o = g
    · rw [if_pos c] at e
      cases e
      exact ⟨List.mem_cons_self, fun j hj => List.mem_cons_of_mem _ hj, by simp, fun h r z => z⟩
    · rw [if_neg c] at e
      obtain ⟨a1, a2, a3, a4⟩ := cutI_in q a t e
      exact ⟨List.mem_cons_of_mem _ a1, fun j hj => List.mem_cons_of_mem _ (a2 j hj), by rw [List.length_cons]; omega, fun h r z => a4 h r (stA_pop z)⟩
theorem cutT_I {g k : Int} (hk : ∀ o, clo (s o) = g ↔ s o = k) : ∀ q : List Int, cutT s g (q.map (gx L)) = (cutI (fun i => s (gx L i)) k q).map (fun x => (gx L x.1, x.2.map (gx L)))
  | [] => rfl
  | o :: q => by
    rw [List.map_cons]
    unfold cutT cutI
    by_cases c : s (gx L o) = k
    · rw [if_pos ((hk _).mpr c), if_pos c]; rfl
    · rw [if_neg (fun z => c ((hk _).mp z)), if_neg c]
      exact cutT_I hk q
theorem C_lastOpened (sD : shDirections h D) {g : Int} {qi : List Int} (hq : ∀ j ∈ qi, 0 ≤ j ∧ j < L.length) (hl : qi.length ≤ 131) (h131 : L.length ≤ 131) (hst : stA h (D + 7) qi) (hs : ∀ i : Nat, i < L.length → h 2 (D + 4) i = s (gx L i)) : vcl mX0_lastOpened [(1, D), (0, qi.length), (0, g)] h = some (.inl (some (0, match cutI (fun i => s (gx L i)) g qi with | none => -1 | some x => (x.2.length : Int))), h) := by
  have loop : ∀ (q : List Int) (v : vv), q.length ≤ 131 → (∀ j ∈ q, 0 ≤ j ∧ j < L.length) → stA h (D + 7) q → vrun mX0_lastOpened 10 [(1, D), (0, qi.length), (0, g), (0, (q.length : Int) - 1), v] [] h = some (.inl (some (0, match cutI (fun i => s (gx L i)) g q with | none => -1 | some x => (x.2.length : Int))), h) := by
    intro q
    induction q with
    | nil =>
      intro v _ _ _
      rw [rX0_lastOpened_10 sD, if_pos (by simp)]
      · rfl
      · intro z; simp at z
    | cons o q ih =>
      intro v hl hq hst
      have o1 := hq o List.mem_cons_self
      rw [List.length_cons] at hl
      have ix : (((o :: q).length : Nat) : Int) - 1 = q.length := by rw [List.length_cons]; omega
      have top := stA_top hst
      have so : h 2 (D + 4) o = s (gx L o) := by
        have := hs o.toNat (by omega)
        rw [show ((o.toNat : Nat) : Int) = o by omega] at this
        exact this
      rw [ix, rX0_lastOpened_10 sD (by omega), if_neg (by omega), top, if_neg (by omega), if_neg (by omega), so]
      unfold cutI
      by_cases c : s (gx L o) = g
      · rw [if_pos c, if_pos c]
      · rw [if_neg c, if_neg c, show (q.length : Int) + -1 = (q.length : Int) - 1 by omega]
        exact ih (0, o) (by omega) (fun j hj => hq j (List.mem_cons_of_mem _ hj)) (stA_pop hst)
  refine (rX0_lastOpened_0 (by omega)).trans ?_
  rw [show min (qi.length : Int) 131 - 1 = (qi.length : Int) - 1 by omega]
  exact loop qi (9, 0) hl hq hst
/-- the closing brackets, kept by numbers -/
def cClo (h : vH) (D : Int) (L : List Int) (m : Int → Int) : Prop := ∀ j : Nat, j < L.length → (m (gx L j) = -1 ∧ h 2 (D + 6) j = -1) ∨ (∃ t : Nat, t < L.length ∧ j < t ∧ h 2 (D + 6) j = t ∧ m (gx L j) = gx L t)
theorem C_pairBrackets (sD : shDirections h D) (hp : L.Pairwise (· < ·)) (h0 : ∀ c ∈ L, 0 ≤ c) (hc : h 207 D 0 = (L.length : Int)) (h131 : L.length ≤ 131) (hs : ∀ i : Nat, i < L.length → h 2 (D + 4) i = s (gx L i)) (hcl : ∀ i : Nat, i < L.length → h 2 (D + 6) i = -1) : ∃ h2, vcl mX0_pairBrackets [(1, D)] h = some (.inl none, h2) ∧ yF D 6 7 1 0 h h2 ∧ cClo h2 D L (prB s L [] (fun _ => -1)) ∧ ∀ c, ¬ prB s L [] (fun _ => -1) c = -1 → ¬ clo (s c) = -1 := by
  have loop : ∀ (f i : Nat) (qi : List Int) (m : Int → Int) (h1 : vH) (v3 v4 : vv), i + f = L.length → yF D 6 7 1 0 h h1 → qi.length ≤ i → (∀ j ∈ qi, 0 ≤ j ∧ j < i ∧ ¬ clo (s (gx L j)) = -1) → stA h1 (D + 7) qi → cClo h1 D L m → (∀ c, ¬ m c = -1 → ¬ clo (s c) = -1) → prB s L [] (fun _ => -1) = prB s (L.drop i) (qi.map (gx L)) m → ∃ h2, vrun mX0_pairBrackets 4 [(1, D), (0, qi.length), (0, i), v3, v4] [] h1 = some (.inl none, h2) ∧ yF D 6 7 1 0 h h2 ∧ cClo h2 D L (prB s L [] (fun _ => -1)) ∧ ∀ c, ¬ prB s L [] (fun _ => -1) c = -1 → ¬ clo (s c) = -1 := by
    intro f
    induction f with
    | zero =>
      intro i qi m h1 v3 v4 hi hF hl hq hst hcl hm he
      have e0 : h1 207 D 0 = (L.length : Int) := (hF _ _ _ (by omega)).trans hc
      rw [List.drop_of_length_le (by omega)] at he
      have he : prB s L [] (fun _ => -1) = m := he
      refine ⟨h1, ?_, hF, by rw [he]; exact hcl, by rw [he]; exact hm⟩
      rw [rX0_pairBrackets_4 (shDirections_sx (yF_0 hF) sD), if_pos (by omega)]
      all_goals (first | (intros; omega) | assumption)
    | succ f ih =>
      intro i qi m h1 v3 v4 hi hF hl hq hst hcl hm he
      have il : i < L.length := by omega
      have sD1 := shDirections_sx (yF_0 hF) sD
      have e0 : h1 207 D 0 = (L.length : Int) := (hF _ _ _ (by omega)).trans hc
      have e1 : h1 2 (D + 4) i = s (gx L i) := (hF _ _ _ (by omega)).trans (hs i il)
      rw [gx_drop il] at he
      have hd : prB s (gx L i :: L.drop (i + 1)) (qi.map (gx L)) m = if clo (s (gx L i)) = -1 then (if s (gx L i) = 41 ∨ s (gx L i) = 93 then (match cutT s (s (gx L i)) (qi.map (gx L)) with
        | none => prB s (L.drop (i + 1)) (qi.map (gx L)) m
        | some (o, t) => prB s (L.drop (i + 1)) t (ipd m o (gx L i))) else prB s (L.drop (i + 1)) (qi.map (gx L)) m) else prB s (L.drop (i + 1)) (gx L i :: qi.map (gx L)) m := rfl
      rw [hd] at he
      have co : ∀ g : Int, clo g = if g = 40 then 41 else if g = 91 then 93 else -1 := fun g => rfl
      -- an opening one
      have opn : (s (gx L i) = 40 ∨ s (gx L i) = 91) → ∃ h2, vrun mX0_pairBrackets 4 [(1, D), (0, (qi.length : Int) + 1), (0, (i : Int) + 1), (0, s (gx L i)), v4] [] (vup h1 2 (D + 7) qi.length i) = some (.inl none, h2) ∧ yF D 6 7 1 0 h h2 ∧ cClo h2 D L (prB s L [] (fun _ => -1)) ∧ ∀ c, ¬ prB s L [] (fun _ => -1) c = -1 → ¬ clo (s c) = -1 := by
        intro hg
        have cn : ¬ clo (s (gx L i)) = -1 := by
          rw [co]
          rcases hg with z | z <;> rw [z] <;> decide
        rw [if_neg cn] at he
        have := ih (i + 1) ((i : Int) :: qi) m (vup h1 2 (D + 7) qi.length i) (0, s (gx L i)) v4 (by omega) (yF_up hF (Or.inl ⟨rfl, by omega, by omega⟩)) (by rw [List.length_cons]; omega) (fun j hj => by
          rcases List.mem_cons.mp hj with z | z
          · subst z; exact ⟨by omega, by omega, cn⟩
          · have := hq j z; exact ⟨this.1, by omega, this.2.2⟩) (stA_push hst) (fun j hj => by
          rw [vup_r (by omega)]
          exact hcl j hj) hm (by rw [List.map_cons]; exact he)
        rw [List.length_cons] at this
        exact this
      -- a closing one
      have cls : ∀ k : Int, (∀ o, clo (s o) = s (gx L i) ↔ s o = k) → (s (gx L i) = 41 ∨ s (gx L i) = 93) → ∃ h2, vret vrun mX0_pairBrackets 85 [(1, D), (0, qi.length), (0, i), (0, s (gx L i)), v4] [] (vcl mX0_lastOpened [(1, D), (0, qi.length), (0, k)] h1) = some (.inl none, h2) ∧ yF D 6 7 1 0 h h2 ∧ cClo h2 D L (prB s L [] (fun _ => -1)) ∧ ∀ c, ¬ prB s L [] (fun _ => -1) c = -1 → ¬ clo (s c) = -1 := by
        intro k hk hg
        have cn : clo (s (gx L i)) = -1 := by
          rw [co]
          rcases hg with z | z <;> rw [z] <;> decide
        rw [if_pos cn, if_pos hg, cutT_I hk] at he
        have lo := C_lastOpened (L := L) (s := s) (g := k) sD1 (fun j hj => ⟨(hq j hj).1, by have := (hq j hj).2.1; omega⟩) (by omega) h131 hst (fun i hi => (hF _ _ _ (by omega)).trans (hs i hi))
        rw [lo]
        cases e : cutI (fun i => s (gx L i)) k qi with
        | none =>
          rw [e] at he
          obtain ⟨h2, a1, a2⟩ := ih (i + 1) qi m h1 (0, s (gx L i)) (0, -1) (by omega) hF (by omega) (fun j hj => ⟨(hq j hj).1, by have := (hq j hj).2.1; omega, (hq j hj).2.2⟩) hst hcl hm he
          refine ⟨h2, ?_, a2⟩
          refine (rX0_pairBrackets_88 (by omega) (by omega) (by omega) (by omega) sD1).trans ?_
          rw [if_pos (show (-1 : Int) < 0 by decide)]
          exact a1
        | some x =>
          obtain ⟨o, t⟩ := x
          rw [e] at he
          obtain ⟨q1, q2, q3, q4⟩ := cutI_in qi o t e
          have oq := hq o q1
          have st2 := q4 _ _ hst
          have top := stA_top st2
          obtain ⟨h2, a1, a2⟩ := ih (i + 1) t (ipd m (gx L o) (gx L i)) (vup h1 2 (D + 6) o i) (0, s (gx L i)) (0, t.length) (by omega) (yF_up hF (Or.inl ⟨rfl, by omega, by omega⟩)) (by omega) (fun j hj => ⟨(hq j (q2 j hj)).1, by have := (hq j (q2 j hj)).2.1; omega, (hq j (q2 j hj)).2.2⟩) (stA_eq (stA_pop st2) (fun i _ => vup_r (by omega))) (fun j hj => by
            rw [vup_2]
            unfold ipd
            by_cases z : (j : Int) = o
            · rw [if_pos z]
              right
              refine ⟨i, il, by omega, rfl, ?_⟩
              rw [z, if_pos rfl]
            · rw [if_neg z, if_neg]
              · exact hcl j hj
              · intro w
                have : gx L (j : Int) = gx L (o.toNat : Int) := by rw [show ((o.toNat : Nat) : Int) = o by omega]; exact w
                have := gx_inj hp hj (by omega) this
                omega) (fun c hc => by
            unfold ipd at hc
            by_cases z : c = gx L o
            · rw [z]; exact oq.2.2
            · rw [if_neg z] at hc; exact hm c hc) he
          refine ⟨h2, ?_, a2⟩
          refine (rX0_pairBrackets_88 (by omega) (by omega) (by omega) (by omega) sD1).trans ?_
          show (if (t.length : Int) < 0 then _ else if 131 ≤ (t.length : Int) then _ else _) = _
          rw [if_neg (by omega), if_neg (by omega), top]
          have sc : vcl mX0_setCloser [(1, D), (0, o), (0, i)] h1 = some (.inl none, vup h1 2 (D + 6) o i) := by
            refine (rX0_setCloser_0 sD1).trans ?_
            rw [if_neg (by omega), if_neg (by omega)]
          refine (vret_n sc).trans ?_
          refine (rX0_pairBrackets_115 (by omega) (by omega)).trans ?_
          exact a1
      rw [rX0_pairBrackets_4 sD1, if_neg (by omega), if_neg (by omega), e1]
      · by_cases c1 : s (gx L i) = 40
        · rw [if_pos c1, if_neg (by omega)]
          exact opn (Or.inl c1)
        · rw [if_neg c1]
          by_cases c2 : s (gx L i) = 91
          · rw [if_pos c2, if_neg (by omega)]
            exact opn (Or.inr c2)
          · rw [if_neg c2]
            by_cases c3 : s (gx L i) = 41
            · rw [if_pos c3, if_pos c3]
              exact cls 40 (fun o => by
                rw [c3, co]
                by_cases z : s o = 40
                · rw [if_pos z]; exact ⟨fun _ => z, fun _ => rfl⟩
                · rw [if_neg z]
                  refine ⟨fun w => ?_, fun w => absurd w z⟩
                  by_cases z2 : s o = 91
                  · rw [if_pos z2] at w; omega
                  · rw [if_neg z2] at w; omega) (Or.inl c3)
            · rw [if_neg c3]
              by_cases c4 : s (gx L i) = 93
              · rw [if_pos c4, if_neg c3]
                exact cls 91 (fun o => by
                  rw [c4, co]
                  by_cases z : s o = 40
                  · rw [if_pos z]; exact ⟨fun w => absurd w (by decide), fun w => by omega⟩
                  · rw [if_neg z]
                    by_cases z2 : s o = 91
                    · rw [if_pos z2]; exact ⟨fun _ => z2, fun _ => rfl⟩
                    · rw [if_neg z2]; exact ⟨fun w => by omega, fun w => absurd w z2⟩) (Or.inr c4)
              · rw [if_neg c4]
                have cn : clo (s (gx L i)) = -1 := by rw [co, if_neg c1, if_neg c2]
                rw [if_pos cn, if_neg (by omega)] at he
                exact ih (i + 1) qi m h1 (0, s (gx L i)) v4 (by omega) hF (by omega) (fun j hj => ⟨(hq j hj).1, by have := (hq j hj).2.1; omega, (hq j hj).2.2⟩) hst hcl hm he
      all_goals (first | (intros; omega) | assumption)
  obtain ⟨h2, a1, a2⟩ := loop L.length 0 [] (fun _ => -1) h (9, 0) (9, 0) (by omega) yF_rf (Nat.le_refl _) (fun j hj => by cases hj) stA_nil (fun j hj => Or.inl ⟨rfl, hcl j hj⟩) (fun c z => absurd rfl z) rfl
  exact ⟨h2, rX0_pairBrackets_0.trans a1, a2⟩
end CB

