/-- only these arrays and these scalars of the reference are written -/
def mF (A : List Int) (K : List Nat) (h h2 : vH) : Prop := ∀ (k : Nat) (r i : Int), ¬ (k = 2 ∧ r ∈ A) → ¬ (r = 282 ∧ k ∈ K) → h2 k r i = h k r i
theorem mF_rf {A : List Int} {K : List Nat} {h : vH} : mF A K h h := fun _ _ _ _ _ => rfl
theorem mF_tr {A : List Int} {K : List Nat} {a b c : vH} (x : mF A K a b) (y : mF A K b c) : mF A K a c := fun k r i e f => (y k r i e f).trans (x k r i e f)
theorem mF_up {A : List Int} {K : List Nat} {h h2 : vH} {k : Nat} {r i v : Int} (x : mF A K h h2) (e : (k = 2 ∧ r ∈ A) ∨ (r = 282 ∧ k ∈ K)) : mF A K h (vup h2 k r i v) := by
  intro k' r' i' e1 e2
  unfold vup
  split
  · rename_i z
    obtain ⟨rfl, rfl, rfl⟩ := z
    exact (e.elim e1 e2).elim
  · exact x k' r' i' e1 e2
theorem mF_le {A B : List Int} {K J : List Nat} {h h2 : vH} (x : mF A K h h2) (hA : ∀ r ∈ A, r ∈ B) (hK : ∀ k ∈ K, k ∈ J) : mF B J h h2 := fun k r i e f => x k r i (fun z => e ⟨z.1, hA _ z.2⟩) (fun z => f ⟨z.1, hK _ z.2⟩)
theorem mF_sx {A : List Int} {K : List Nat} {h h2 : vH} (x : mF A K h h2) (hK : ∀ k ∈ K, stk k = false) : sx h h2 := by
  intro k r i e
  refine x k r i (fun z => ?_) (fun z => ?_)
  · rw [z.1] at e; cases e
  · rw [hK k z.2] at e; cases e
abbrev Clu : Type := Int × Int × Int × Int
/-- the clusters of the line that is laid -/
def mCl (h : vH) (L : List Clu) : Prop := h 1540 282 0 = (L.length : Int) ∧ ∀ (i : Nat) (c : Clu), L[i]? = some c → h 2 311 i = c.1 ∧ h 2 312 i = c.2.1 ∧ h 2 313 i = c.2.2.1 ∧ h 2 314 i = c.2.2.2
abbrev cA : List Int := [311, 312, 313, 314]
abbrev cK : List Nat := [1540]
theorem M_adds {h h1 : vH} {L : List Clu} {a b c d : Int} (sM : shModel h1) (hL : mCl h1 L) (hF : mF cA cK h h1) (hn : L.length < 140) : ∃ h2, vcl mX13_adds [(1, 282), (0, a), (0, b), (0, c), (0, d)] h1 = some (.inl none, h2) ∧ mCl h2 (L ++ [(a, b, c, d)]) ∧ mF cA cK h h2 := by
  obtain ⟨l1, l2⟩ := hL
  refine ⟨_, rX13_adds_0 sM (by omega) (by omega), ⟨?_, ?_⟩, ?_⟩
  · rw [vup_s, l1, List.length_append]; rfl
  · intro i x hx
    rw [l1]
    by_cases e : i < L.length
    · rw [List.getElem?_append_left e] at hx
      obtain ⟨q1, q2, q3, q4⟩ := l2 i x hx
      have ne : (i : Int) ≠ (L.length : Int) := by omega
      simp [vup, ne, q1, q2, q3, q4]
    · rw [List.getElem?_append_right (by omega)] at hx
      have e2 : i = L.length := by
        have := (List.getElem?_eq_some_iff.mp hx).1
        simp at this
        omega
      subst e2
      simp at hx
      subst hx
      simp [vup]
  · exact mF_up (mF_up (mF_up (mF_up (mF_up hF (Or.inl ⟨rfl, by decide⟩)) (Or.inl ⟨rfl, by decide⟩)) (Or.inl ⟨rfl, by decide⟩)) (Or.inl ⟨rfl, by decide⟩)) (Or.inr ⟨rfl, by decide⟩)
/-- the sign of a virtual text from its bit b on -/
def vsg (z b : Int) : Int := w32 (bland (blshr z b) 255)
/-- the signs of a virtual text: n of them from the bit b on -/
def vch (z : Int) : Nat → Int → List Int
  | 0, _ => []
  | n + 1, b => (if vsg z b ≤ 0 then [] else [vsg z b]) ++ vch z n (b + 8)
theorem vch_len {z : Int} : ∀ (n : Nat) (b : Int), (vch z n b).length ≤ n
  | 0, _ => Nat.le_refl _
  | n + 1, b => by
    have := vch_len (z := z) n (b + 8)
    unfold vch
    rw [List.length_append]
    split
    · simp; omega
    · simp; omega
def mVon (a : vH) (l lo hi k : Int) : Prop := a 2 298 k = l ∧ ¬ (a 2 299 k < lo) ∧ ¬ (hi < a 2 299 k)
/-- the virtual texts of a line with places from lo to hi: the n from k on -/
noncomputable def mVt (a : vH) (l lo hi : Int) : Nat → Int → List Clu
  | 0, _ => []
  | n + 1, k => @ite _ (mVon a l lo hi k) (Classical.propDecidable _) ((vch (a 2 300 k) 8 0).map (fun s => (s, 1, -1, a 2 299 k))) [] ++ mVt a l lo hi n (k + 1)
/-- room for them -/
noncomputable def mVn (a : vH) (l lo hi : Int) : Nat → Int → Nat
  | 0, _ => 0
  | n + 1, k => @ite _ (mVon a l lo hi k) (Classical.propDecidable _) 8 0 + mVn a l lo hi n (k + 1)
theorem mVt_len {a : vH} {l lo hi : Int} : ∀ (n : Nat) (k : Int), (mVt a l lo hi n k).length ≤ mVn a l lo hi n k
  | 0, _ => Nat.le_refl _
  | n + 1, k => by
    have := mVt_len (a := a) (l := l) (lo := lo) (hi := hi) n (k + 1)
    unfold mVt mVn
    rw [List.length_append]
    by_cases e : mVon a l lo hi k
    · rw [if_pos e, if_pos e, List.length_map]
      have := vch_len (z := a 2 300 k) 8 0
      omega
    · rw [if_neg e, if_neg e]
      simp
      omega
section AV
variable {h : vH} {p l lo hi : Int}
theorem M_addsV_in (sM : shModel h) {i : Int} (hi0 : 0 ≤ i ∧ i < 24) (on : mVon h l lo hi i) : ∀ (n : Nat) (b : Int), b + 8 * n = 64 → 0 ≤ b → ∀ (h1 : vH) (L : List Clu) (v7 : vv), mCl h1 L → mF cA cK h h1 → L.length + n ≤ 140 → ∃ (h2 : vH) (v8 : vv) (y : Int), vrun mX13_addsVirtuals 25 [(1, 282), (0, p), (0, l), (0, lo), (0, hi), (0, i), (0, b), v7] [] h1 = vrun mX13_addsVirtuals 6 [(1, 282), (0, p), (0, l), (0, lo), (0, hi), (0, i + 1), (0, y), v8] [] h2 ∧ mCl h2 (L ++ (vch (h 2 300 i) n b).map (fun s => (s, 1, -1, h 2 299 i))) ∧ mF cA cK h h2 := by
  intro n
  induction n with
  | zero =>
    intro b hb h0 h1 L v7 hL hF hn
    have sM1 := shModel_sx (mF_sx hF (by decide)) sM
    refine ⟨h1, v7, b, ?_, ?_, hF⟩
    · rw [rX13_addsVirtuals_25, if_pos (by omega)]
      all_goals (first | (intros; omega) | assumption)
    · rw [show (vch (h 2 300 i) 0 b) = [] from rfl]
      simpa using hL
  | succ n ih =>
    intro b hb h0 h1 L v7 hL hF hn
    have sM1 := shModel_sx (mF_sx hF (by decide)) sM
    have e1 : h1 2 298 i = h 2 298 i := hF _ _ _ (by simp) (by simp)
    have e2 : h1 2 299 i = h 2 299 i := hF _ _ _ (by simp) (by simp)
    have e3 : h1 2 300 i = h 2 300 i := hF _ _ _ (by simp) (by simp)
    obtain ⟨o1, o2, o3⟩ := on
    have hd : vch (h 2 300 i) (n + 1) b = (if vsg (h 2 300 i) b ≤ 0 then [] else [vsg (h 2 300 i) b]) ++ vch (h 2 300 i) n (b + 8) := rfl
    have vd : w32 (bland (blshr (h 2 300 i) b) 255) = vsg (h 2 300 i) b := rfl
    by_cases hs : vsg (h 2 300 i) b ≤ 0
    · obtain ⟨h2, v8, y, r1, r2, r3⟩ := ih (b + 8) (by omega) (by omega) h1 L (0, vsg (h 2 300 i) b) hL hF (by omega)
      refine ⟨h2, v8, y, ?_, ?_, r3⟩
      · rw [← r1, rX13_addsVirtuals_25, if_neg (by omega), if_pos (by rw [e1]; exact o1), if_pos (by rw [e2]; exact ⟨o2, o3⟩), e3, vd, if_pos hs]
        all_goals (first | (intros; omega) | assumption)
      · rw [hd, if_pos hs]
        exact r2
    · obtain ⟨h3, c1, c2, c3⟩ := M_adds (a := vsg (h 2 300 i) b) (b := 1) (c := -1) (d := h 2 299 i) sM1 hL hF (by omega)
      obtain ⟨h2, v8, y, r1, r2, r3⟩ := ih (b + 8) (by omega) (by omega) h3 _ (0, vsg (h 2 300 i) b) c2 c3 (by rw [List.length_append]; simp; omega)
      refine ⟨h2, v8, y, ?_, ?_, r3⟩
      · rw [← r1, rX13_addsVirtuals_25, if_neg (by omega), if_pos (by rw [e1]; exact o1), if_pos (by rw [e2]; exact ⟨o2, o3⟩), e3, e2, vd, if_neg hs]
        · refine (vret_n c1).trans ?_
          refine (rX13_addsVirtuals_96 (by omega) (by omega)).trans rfl
        all_goals (first | (intros; omega) | assumption)
      · rw [hd, if_neg hs]
        simpa using r2
theorem M_addsV (sM : shModel h) (hp : 0 ≤ p ∧ p < 4) (hv : 0 ≤ h 2 297 p ∧ h 2 297 p ≤ 6) {h1 : vH} {L : List Clu} (hL : mCl h1 L) (hF : mF cA cK h h1) (hn : L.length + mVn h l lo hi (h 2 297 p).toNat (6 * p) ≤ 140) : ∃ h2, vcl mX13_addsVirtuals [(1, 282), (0, p), (0, l), (0, lo), (0, hi)] h1 = some (.inl none, h2) ∧ mCl h2 (L ++ mVt h l lo hi (h 2 297 p).toNat (6 * p)) ∧ mF cA cK h h2 := by
  have loop : ∀ (n : Nat) (i : Int), i + n = 6 * p + h 2 297 p → 6 * p ≤ i → ∀ (h1 : vH) (L : List Clu) (v6 v7 : vv), mCl h1 L → mF cA cK h h1 → L.length + mVn h l lo hi n i ≤ 140 → ∃ h2, vrun mX13_addsVirtuals 6 [(1, 282), (0, p), (0, l), (0, lo), (0, hi), (0, i), v6, v7] [] h1 = some (.inl none, h2) ∧ mCl h2 (L ++ mVt h l lo hi n i) ∧ mF cA cK h h2 := by
    intro n
    induction n with
    | zero =>
      intro i hk h6 h1 L v6 v7 hL hF hn
      have sM1 := shModel_sx (mF_sx hF (by decide)) sM
      have e1 : h1 2 297 p = h 2 297 p := hF _ _ _ (by simp) (by simp)
      refine ⟨h1, ?_, ?_, hF⟩
      · rw [rX13_addsVirtuals_6, if_pos (by omega)]
        all_goals (first | (intros; omega) | assumption)
      · rw [show mVt h l lo hi 0 i = [] from rfl, List.append_nil]
        exact hL
    | succ n ih =>
      intro i hi0 h6 h1 L v6 v7 hL hF hn
      have sM1 := shModel_sx (mF_sx hF (by decide)) sM
      have e1 : h1 2 297 p = h 2 297 p := hF _ _ _ (by simp) (by simp)
      have hd : mVn h l lo hi (n + 1) i = @ite _ (mVon h l lo hi i) (Classical.propDecidable _) 8 0 + mVn h l lo hi n (i + 1) := rfl
      have ht : mVt h l lo hi (n + 1) i = @ite _ (mVon h l lo hi i) (Classical.propDecidable _) ((vch (h 2 300 i) 8 0).map (fun s => (s, 1, -1, h 2 299 i))) [] ++ mVt h l lo hi n (i + 1) := rfl
      have go : vrun mX13_addsVirtuals 6 [(1, 282), (0, p), (0, l), (0, lo), (0, hi), (0, i), v6, v7] [] h1 = vrun mX13_addsVirtuals 25 [(1, 282), (0, p), (0, l), (0, lo), (0, hi), (0, i), (0, 0), v7] [] h1 := by
        rw [rX13_addsVirtuals_6, if_neg (by omega)]
        all_goals (first | (intros; omega) | assumption)
      by_cases on : mVon h l lo hi i
      · rw [hd, if_pos on] at hn
        obtain ⟨h3, v8, y, r1, r2, r3⟩ := M_addsV_in (p := p) sM ⟨by omega, by omega⟩ on 8 0 (by omega) (by omega) h1 L v7 hL hF (by omega)
        obtain ⟨h2, q1, q2, q3⟩ := ih (i + 1) (by omega) (by omega) h3 _ (0, y) v8 r2 r3 (by
          have := vch_len (z := h 2 300 i) 8 0
          rw [List.length_append, List.length_map]
          omega)
        refine ⟨h2, by rw [go, r1, q1], ?_, q3⟩
        rw [ht, if_pos on, ← List.append_assoc]
        exact q2
      · rw [hd, if_neg on] at hn
        have e2 : h1 2 298 i = h 2 298 i := hF _ _ _ (by simp) (by simp)
        have e3 : h1 2 299 i = h 2 299 i := hF _ _ _ (by simp) (by simp)
        obtain ⟨h2, q1, q2, q3⟩ := ih (i + 1) (by omega) (by omega) h1 L (0, 0) v7 hL hF (by omega)
        refine ⟨h2, ?_, ?_, q3⟩
        · rw [go, ← q1, rX13_addsVirtuals_25, if_neg (by omega)]
          · split
            · rename_i y1
              rw [if_neg (fun y2 => on ⟨e2 ▸ y1, e3 ▸ y2.1, e3 ▸ y2.2⟩)]
            · rfl
          all_goals (first | (intros; omega) | assumption)
        · rw [ht, if_neg on]
          exact q2
  refine (fun ⟨h2, a, b⟩ => ⟨h2, (rX13_addsVirtuals_0 (by omega) (by omega)).trans a, b⟩) (loop _ (6 * p) (by omega) (by omega) h1 L (9, 0) (9, 0) hL hF hn)
end AV
