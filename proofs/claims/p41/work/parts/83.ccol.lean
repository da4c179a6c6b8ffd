/-- of the object y only these arrays and these fields are written -/
def yF (y lo hi : Int) (k1 k2 : Nat) (h h2 : vH) : Prop := ∀ (k : Nat) (r i : Int), ¬ ((k = 2 ∧ y + lo ≤ r ∧ r ≤ y + hi) ∨ (r = y ∧ k1 ≤ k ∧ k ≤ k2)) → h2 k r i = h k r i
theorem yF_rf {y lo hi : Int} {k1 k2 : Nat} {h : vH} : yF y lo hi k1 k2 h h := fun _ _ _ _ => rfl
theorem yF_tr {y lo hi : Int} {k1 k2 : Nat} {a b c : vH} (x : yF y lo hi k1 k2 a b) (z : yF y lo hi k1 k2 b c) : yF y lo hi k1 k2 a c := fun k r i e => (z k r i e).trans (x k r i e)
theorem yF_up {y lo hi : Int} {k1 k2 k : Nat} {h h2 : vH} {r i v : Int} (x : yF y lo hi k1 k2 h h2) (e : (k = 2 ∧ y + lo ≤ r ∧ r ≤ y + hi) ∨ (r = y ∧ k1 ≤ k ∧ k ≤ k2)) : yF y lo hi k1 k2 h (vup h2 k r i v) := by
  intro k' r' i' e1
  unfold vup
  split
  · rename_i z
    obtain ⟨rfl, rfl, rfl⟩ := z
    exact absurd e e1
  · exact x k' r' i' e1
theorem yF_le {y lo hi lo2 hi2 : Int} {k1 k2 j1 j2 : Nat} {h h2 : vH} (x : yF y lo hi k1 k2 h h2) (a : lo2 ≤ lo) (b : hi ≤ hi2) (c : j1 ≤ k1) (d : k2 ≤ j2) : yF y lo2 hi2 j1 j2 h h2 := fun k r i e => x k r i (fun z => e (z.elim (fun w => Or.inl ⟨w.1, by omega, by omega⟩) (fun w => Or.inr ⟨w.1, by omega, by omega⟩)))
/-- the fields that a pane's parts write are no pointers -/
theorem yF_sx {y lo hi : Int} {k1 k2 : Nat} {h h2 : vH} (x : yF y lo hi k1 k2 h h2) (e : ∀ k, k1 ≤ k → k ≤ k2 → stk k = false) : sx h h2 := by
  intro k r i hk
  refine x k r i (fun z => ?_)
  rcases z with z | z
  · rw [z.1] at hk; cases hk
  · rw [e k z.2.1 z.2.2] at hk; cases hk
theorem st509 : ∀ k, 509 ≤ k → k ≤ 513 → stk k = false := by
  intro k a b
  rcases (show k = 509 ∨ k = 510 ∨ k = 511 ∨ k = 512 ∨ k = 513 by omega) with e | e | e | e | e <;> subst e <;> rfl
theorem shLayout_k {h : vH} {y r : Int} (s : shLayout h y) (a : y + 1 ≤ r) (b : r ≤ y + 9) : h 0 r 0 = 1 := by
  obtain ⟨-, -, s1, -, -, s2, -, -, s3, -, -, s4, -, -, s5, -, -, s6, -, -, s7, -, -, s8, -, -, s9, -⟩ := s
  rcases (show r = y + 1 ∨ r = y + 2 ∨ r = y + 3 ∨ r = y + 4 ∨ r = y + 5 ∨ r = y + 6 ∨ r = y + 7 ∨ r = y + 8 ∨ r = y + 9 by omega) with e | e | e | e | e | e | e | e | e <;> subst e <;> assumption
/-- another kind of cell is not touched -/
theorem yF_k {y lo hi : Int} {k1 k2 : Nat} {h h2 : vH} (x : yF y lo hi k1 k2 h h2) (s : shLayout h y) (hl : 1 ≤ lo) (hh : hi ≤ 9) (hk : 2 < k1) {r i : Int} (e : ¬ h 0 r 0 = 1) : h2 2 r i = h 2 r i := x 2 r i (fun z => by
  rcases z with z | z
  · exact e (shLayout_k s (by omega) (by omega))
  · omega)
theorem yF_line {y lo hi : Int} {k1 k2 : Nat} {h h2 : vH} (x : yF y lo hi k1 k2 h h2) (s : shLayout h y) (hl : 1 ≤ lo) (hh : hi ≤ 9) (hk : 2 < k1) {r i : Int} (e : shLine h r) : h2 2 (r + 1) i = h 2 (r + 1) i := x 2 (r + 1) i (fun z => by
  rcases z with z | z
  · have k := e.1
    by_cases q : r = y
    · rw [q, s.1] at k; omega
    · have := shLayout_k s (show y + 1 ≤ r by omega) (by omega)
      omega
  · omega)
theorem cLi_yF {y lo hi : Int} {h h2 : vH} (x : yF y lo hi 509 513 h h2) {r n : Int} (c : cLi h r n) : cLi h2 r n := by
  obtain ⟨c1, c2, c3⟩ := c
  have e1 : h2 101 r 0 = h 101 r 0 := x _ _ _ (by omega)
  refine ⟨(x 0 r 0 (by omega)).trans c1, (x _ _ _ (by omega)).trans c2, fun z => ?_⟩
  rw [e1, x 0 _ _ (by omega), x 1 _ _ (by omega)]
  exact c3 z
theorem lE_yF {y lo hi : Int} {h h2 : vH} (x : yF y lo hi 509 513 h h2) (s : shLayout h y) (hl : 1 ≤ lo) (hh : hi ≤ 9) {r n j : Int} (c : cLi h r n) (hn : 0 < n) : lE h2 r j = lE h r j := by
  unfold lE
  rw [x 101 r 0 (by omega), yF_k x s hl hh (by decide) (by rw [(c.2.2 hn).1]; decide)]
theorem cPl_yF {y lo hi : Int} {h h2 : vH} (x : yF y lo hi 509 513 h h2) {r st l q : Int} (c : cPl h r st l q) : cPl h2 r st l q := ⟨(x _ _ _ (by omega)).trans c.1, (x _ _ _ (by omega)).trans c.2.1, (x _ _ _ (by omega)).trans c.2.2⟩
theorem cLay_yF {y lo hi : Int} {h h2 a : vH} {p Y : Int} (x : yF y lo hi 509 513 h h2) (s : shLayout h y) (hl : 1 ≤ lo) (hh : hi ≤ 9) (c : cLay h a p Y) : cLay h2 a p Y := by
  obtain ⟨c1, c2, c3, c4, c5, c6, c7⟩ := c
  have X := yF_sx x st509
  refine ⟨shLayers_sx X c1, cLi_yF x c2, cLi_yF x c3, cLi_yF x c4, fun j a b => ?_, fun j a b => ?_, fun j a b => ?_⟩
  · rw [lE_yF x s hl hh c2 (by omega)]
    obtain ⟨d1, d2, d3⟩ := c5 j a b
    exact ⟨shSpan_sx X d1, cPl_yF x d2, cPl_yF x d3⟩
  · rw [lE_yF x s hl hh c3 (by omega)]
    obtain ⟨d1, d2, d3, d4⟩ := c6 j a b
    exact ⟨shVirtual_sx X d1, cPl_yF x d2, (x _ _ _ (by omega)).trans d3, d4⟩
  · rw [lE_yF x s hl hh c4 (by omega)]
    obtain ⟨d1, d2, d3, d4⟩ := c7 j a b
    exact ⟨shFold_sx X d1, (x _ _ _ (by omega)).trans d2, (x _ _ _ (by omega)).trans d3, (x _ _ _ (by omega)).trans d4⟩
/-- the clusters that a layout holds -/
def kCl (h : vH) (y : Int) (L : List Clu) : Prop := h 509 y 0 = (L.length : Int) ∧ ∀ (i : Nat) (c : Clu), L[i]? = some c → h 2 (y + 1) i = c.1 ∧ h 2 (y + 2) i = c.2.1 ∧ h 2 (y + 3) i = c.2.2.1 ∧ h 2 (y + 4) i = c.2.2.2
section CC
variable {h a : vH} {p Y y l X : Int}
theorem C_add {h1 : vH} {L : List Clu} {b c d e : Int} (s : shLayout h1 y) (hL : kCl h1 y L) (hF : yF y 1 4 509 512 h h1) (hn : L.length < 131) : ∃ h2, vcl mX3_add [(1, y), (0, b), (0, c), (0, d), (0, e)] h1 = some (.inl none, h2) ∧ kCl h2 y (L ++ [(b, c, d, e)]) ∧ yF y 1 4 509 512 h h2 ∧ h2 512 y 0 = h1 512 y 0 := by
  obtain ⟨l1, l2⟩ := hL
  refine ⟨_, (show _ = _ from rX3_add_0 s).trans ((if_neg (by omega)).trans (if_pos (by omega))), ⟨?_, ?_⟩, ?_, ?_⟩
  · rw [vup_s, l1, List.length_append]; rfl
  · intro i x hx
    rw [l1]
    have n1 : y + 1 ≠ y + 2 ∧ y + 1 ≠ y + 3 ∧ y + 1 ≠ y + 4 ∧ y + 2 ≠ y + 1 ∧ y + 2 ≠ y + 3 ∧ y + 2 ≠ y + 4 ∧ y + 3 ≠ y + 1 ∧ y + 3 ≠ y + 2 ∧ y + 3 ≠ y + 4 ∧ y + 4 ≠ y + 1 ∧ y + 4 ≠ y + 2 ∧ y + 4 ≠ y + 3 := by omega
    have r1 : ∀ j : Int, (vup (vup (vup (vup (vup h1 2 (y + 1) L.length b) 2 (y + 2) L.length c) 2 (y + 3) L.length d) 2 (y + 4) L.length e) 509 y 0 (L.length + 1)) 2 (y + 1) j = if j = L.length then b else h1 2 (y + 1) j := fun j => by
      rw [vup_k (by decide), vup_r (by omega), vup_r (by omega), vup_r (by omega), vup_2]
    have r2 : ∀ j : Int, (vup (vup (vup (vup (vup h1 2 (y + 1) L.length b) 2 (y + 2) L.length c) 2 (y + 3) L.length d) 2 (y + 4) L.length e) 509 y 0 (L.length + 1)) 2 (y + 2) j = if j = L.length then c else h1 2 (y + 2) j := fun j => by
      rw [vup_k (by decide), vup_r (by omega), vup_r (by omega), vup_2, vup_r (by omega)]
    have r3 : ∀ j : Int, (vup (vup (vup (vup (vup h1 2 (y + 1) L.length b) 2 (y + 2) L.length c) 2 (y + 3) L.length d) 2 (y + 4) L.length e) 509 y 0 (L.length + 1)) 2 (y + 3) j = if j = L.length then d else h1 2 (y + 3) j := fun j => by
      rw [vup_k (by decide), vup_r (by omega), vup_2, vup_r (by omega), vup_r (by omega)]
    have r4 : ∀ j : Int, (vup (vup (vup (vup (vup h1 2 (y + 1) L.length b) 2 (y + 2) L.length c) 2 (y + 3) L.length d) 2 (y + 4) L.length e) 509 y 0 (L.length + 1)) 2 (y + 4) j = if j = L.length then e else h1 2 (y + 4) j := fun j => by
      rw [vup_k (by decide), vup_2, vup_r (by omega), vup_r (by omega), vup_r (by omega)]
    rw [r1, r2, r3, r4]
    by_cases z : i < L.length
    · rw [List.getElem?_append_left z] at hx
      obtain ⟨q1, q2, q3, q4⟩ := l2 i x hx
      rw [if_neg (by omega), if_neg (by omega), if_neg (by omega), if_neg (by omega)]
      exact ⟨q1, q2, q3, q4⟩
    · rw [List.getElem?_append_right (by omega)] at hx
      have e2 : i = L.length := by
        have := (List.getElem?_eq_some_iff.mp hx).1
        simp at this
        omega
      subst e2
      simp at hx
      subst hx
      rw [if_pos rfl, if_pos rfl, if_pos rfl, if_pos rfl]
      exact ⟨rfl, rfl, rfl, rfl⟩
  · exact yF_up (yF_up (yF_up (yF_up (yF_up hF (Or.inl ⟨rfl, by omega, by omega⟩)) (Or.inl ⟨rfl, by omega, by omega⟩)) (Or.inl ⟨rfl, by omega, by omega⟩)) (Or.inl ⟨rfl, by omega, by omega⟩)) (Or.inr ⟨rfl, by decide, by decide⟩)
  · rw [vup_k (by decide), vup_k (by decide), vup_k (by decide), vup_k (by decide), vup_k (by decide)]
theorem vch_zero {z : Int} : ∀ (n : Nat) (b : Int), (∀ i : Nat, i < n → vsg z (b + 8 * i) = 0) → vch z n b = []
  | 0, _, _ => rfl
  | n + 1, b, h => by
    have h0 := h 0 (by omega)
    rw [show b + 8 * ((0 : Nat) : Int) = b by omega] at h0
    unfold vch
    rw [if_pos (by omega), List.nil_append]
    exact vch_zero n (b + 8) (fun i hi => by
      have := h (i + 1) (by omega)
      rw [show b + 8 * ((i + 1 : Nat) : Int) = b + 8 + 8 * (i : Int) by omega] at this
      exact this)
end CC
section CV
variable {h a : vH} {p Y y l X lo hi : Int}
theorem C_addV_in (s : shLayout h y) {V z at_ j x2 : Int} (sV : shVirtual h V) (hz : h 1301 V 0 = z) (vt : isVt z) (hj : 0 ≤ j ∧ j < 6) : ∀ (n : Nat) (i : Int), i + n = 8 → 0 ≤ i → ∀ (h1 : vH) (L : List Clu), kCl h1 y L → yF y 1 4 509 512 h h1 → L.length + n ≤ 131 → ∃ (h2 : vH) (w : Int), vrun mX3_addVirtuals 67 [(1, y), (1, Y), (0, x2), (0, lo), (0, hi), (0, j), (1, V), (0, at_), (0, i)] [] h1 = vrun mX3_addVirtuals 3 [(1, y), (1, Y), (0, x2), (0, lo), (0, hi), (0, j + 1), (1, V), (0, at_), (0, w)] [] h2 ∧ kCl h2 y (L ++ (vch z n (8 * i)).map (fun s => (s, 1, -1, at_))) ∧ yF y 1 4 509 512 h h2 ∧ h2 512 y 0 = h1 512 y 0 := by
  intro n
  induction n with
  | zero =>
    intro i hi0 h0 h1 L hL hF hn
    have X1 := yF_sx hF (fun k u v => st509 k u (by omega))
    refine ⟨h1, i, ?_, ?_, hF, rfl⟩
    · rw [rX3_addVirtuals_67, if_pos (by omega)]
      all_goals (first | (intros; omega) | exact shVirtual_sx X1 sV | exact shLayout_sx X1 s)
    · rw [show vch z 0 (8 * i) = [] from rfl]
      simpa using hL
  | succ n ih =>
    intro i hi0 h0 h1 L hL hF hn
    have X1 := yF_sx hF (fun k u v => st509 k u (by omega))
    have sV1 := shVirtual_sx X1 sV
    have s1 := shLayout_sx X1 s
    have hz1 : h1 1301 V 0 = z := (hF _ _ _ (by omega)).trans hz
    have sg : fX11_signAt h1 V i = vsg z (8 * i) := by
      unfold fX11_signAt
      rw [hz1]
      exact vsg_all z i ⟨h0, by omega⟩
    obtain ⟨m, m1, m8, hp, hq⟩ := id vt
    have hd : vch z (n + 1) (8 * i) = (if vsg z (8 * i) ≤ 0 then [] else [vsg z (8 * i)]) ++ vch z n (8 * i + 8) := rfl
    by_cases c : i < m
    · have pos := hp i h0 c
      obtain ⟨h3, c1, c2, c3, c4⟩ := C_add (b := vsg z (8 * i)) (c := 1) (d := -1) (e := at_) s1 hL hF (by omega)
      obtain ⟨h2, w, r1, r2, r3, r4⟩ := ih (i + 1) (by omega) (by omega) h3 _ c2 c3 (by rw [List.length_append]; simp; omega)
      refine ⟨h2, w, ?_, ?_, r3, r4.trans c4⟩
      · rw [← r1, rX3_addVirtuals_67, if_neg (by omega), sg, if_neg (by omega)]
        · refine (vret_n c1).trans ?_
          exact rX3_addVirtuals_99 (by omega) (by omega)
        all_goals (first | (intros; omega) | exact sV1 | exact s1)
      · rw [hd, if_neg (by omega), show 8 * i + 8 = 8 * (i + 1) by omega]
        simpa using r2
    · have z0 := hq i (by omega) (by omega)
      refine ⟨h1, i, ?_, ?_, hF, rfl⟩
      · rw [rX3_addVirtuals_67, if_neg (by omega), sg, if_pos z0]
        all_goals (first | (intros; omega) | exact sV1 | exact s1)
      · rw [vch_zero (n + 1) (8 * i) (fun q hq2 => by
          have := hq (i + q) (by omega) (by omega)
          rw [show 8 * i + 8 * (q : Int) = 8 * (i + q) by omega]
          exact this)]
        simpa using hL
theorem C_addV (s : shLayout h y) (c : cLay h a p Y) (hv : 0 ≤ a 2 297 p ∧ a 2 297 p ≤ 6) {h1 : vH} {L : List Clu} (hL : kCl h1 y L) (hF : yF y 1 4 509 512 h h1) (hn : L.length + mVn a l (lo + 1) hi (a 2 297 p).toNat (6 * p) ≤ 131) : ∃ h2, vcl mX3_addVirtuals [(1, y), (1, Y), (0, l), (0, lo), (0, hi)] h1 = some (.inl none, h2) ∧ kCl h2 y (L ++ mVt a l (lo + 1) hi (a 2 297 p).toNat (6 * p)) ∧ yF y 1 4 509 512 h h2 ∧ h2 512 y 0 = h1 512 y 0 := by
  have loop : ∀ (n : Nat) (i : Int), i + n = a 2 297 p → 0 ≤ i → ∀ (h1 : vH) (L : List Clu) (v6 v7 v8 : vv), kCl h1 y L → yF y 1 4 509 512 h h1 → L.length + mVn a l (lo + 1) hi n (6 * p + i) ≤ 131 → ∃ h2, vrun mX3_addVirtuals 3 [(1, y), (1, Y), (0, l), (0, lo), (0, hi), (0, i), v6, v7, v8] [] h1 = some (.inl none, h2) ∧ kCl h2 y (L ++ mVt a l (lo + 1) hi n (6 * p + i)) ∧ yF y 1 4 509 512 h h2 ∧ h2 512 y 0 = h1 512 y 0 := by
    intro n
    induction n with
    | zero =>
      intro i hi0 h0 h1 L v6 v7 v8 hL hF hn
      have ff := yF_le hF (lo2 := 1) (hi2 := 9) (j1 := 509) (j2 := 513) (by omega) (by omega) (by omega) (by omega)
      obtain ⟨c1, -, ⟨c2, c3, c4⟩, -⟩ := cLay_yF ff s (by omega) (by omega) c
      refine ⟨h1, ?_, ?_, hF, rfl⟩
      · rw [rX3_addVirtuals_3 c1 c2, if_pos (by omega)]
        all_goals (first | (intros; omega) | assumption)
      · rw [show mVt a l (lo + 1) hi 0 (6 * p + i) = [] from rfl, List.append_nil]
        exact hL
    | succ n ih =>
      intro i hi0 h0 h1 L v6 v7 v8 hL hF hn
      have ff := yF_le hF (lo2 := 1) (hi2 := 9) (j1 := 509) (j2 := 513) (by omega) (by omega) (by omega) (by omega)
      obtain ⟨c1, -, ⟨c2, c3, c4⟩, -, -, c5, -⟩ := cLay_yF ff s (by omega) (by omega) c
      obtain ⟨e1, e2⟩ := c4 (by omega)
      obtain ⟨d1, ⟨d2, d3, d4⟩, d5, d6⟩ := c5 i h0 (by omega)
      have s1 := shLayout_sx (yF_sx hF (fun k u v => st509 k u (by omega))) s
      unfold lE at d1 d2 d3 d4 d5
      have hd : mVn a l (lo + 1) hi (n + 1) (6 * p + i) = @ite _ (mVon a l (lo + 1) hi (6 * p + i)) (Classical.propDecidable _) 8 0 + mVn a l (lo + 1) hi n (6 * p + i + 1) := rfl
      have ht : mVt a l (lo + 1) hi (n + 1) (6 * p + i) = @ite _ (mVon a l (lo + 1) hi (6 * p + i)) (Classical.propDecidable _) ((vch (a 2 300 (6 * p + i)) 8 0).map (fun s => (s, 1, -1, a 2 299 (6 * p + i)))) [] ++ mVt a l (lo + 1) hi n (6 * p + i + 1) := rfl
      rw [Int.add_assoc] at hd ht
      by_cases on : mVon a l (lo + 1) hi (6 * p + i)
      · rw [hd, if_pos on] at hn
        obtain ⟨o1, o2, o3⟩ := id on
        obtain ⟨h3, w, r1, r2, r3, r4⟩ := C_addV_in (h := h1) (Y := Y) (y := y) (lo := lo) (hi := hi) (x2 := l) (at_ := a 2 299 (6 * p + i)) s1 d1 d5 d6 (j := i) ⟨h0, by omega⟩ 8 0 (by omega) (by omega) h1 L hL yF_rf (by omega)
        obtain ⟨h2, q1, q2, q3, q4⟩ := ih (i + 1) (by omega) (by omega) h3 _ (1, h1 2 (h1 101 (Y + 2) 0) i) (0, a 2 299 (6 * p + i)) (0, w) r2 (yF_tr hF r3) (by
          have := vch_len (z := a 2 300 (6 * p + i)) 8 0
          rw [List.length_append, List.length_map]
          rw [show 8 * (0 : Int) = 0 from rfl]
          omega)
        refine ⟨h2, ?_, ?_, q3, q4.trans r4⟩
        · rw [rX3_addVirtuals_3 c1 c2, if_neg (by omega), d3, d4, if_pos o1, if_neg (by omega), if_neg o3, r1, q1]
          all_goals (first | (intros; omega) | (intros; assumption))
        · rw [ht, if_pos on, ← List.append_assoc]
          exact q2
      · rw [hd, if_neg on] at hn
        have skip : ∀ v7, ∃ h2, vrun mX3_addVirtuals 3 [(1, y), (1, Y), (0, l), (0, lo), (0, hi), (0, i + 1), (1, h1 2 (h1 101 (Y + 2) 0) i), v7, v8] [] h1 = some (.inl none, h2) ∧ kCl h2 y (L ++ mVt a l (lo + 1) hi (n + 1) (6 * p + i)) ∧ yF y 1 4 509 512 h h2 ∧ h2 512 y 0 = h1 512 y 0 := by
          intro v7
          rw [ht, if_neg on]
          exact ih (i + 1) (by omega) (by omega) h1 L _ _ _ hL hF (by omega)
        obtain ⟨h2, q1, q2, q3, q4⟩ := skip (0, a 2 299 (6 * p + i))
        refine ⟨h2, ?_, q2, q3, q4⟩
        rw [rX3_addVirtuals_3 c1 c2, if_neg (by omega), d3, d4]
        · by_cases o1 : a 2 298 (6 * p + i) = l
          · rw [if_pos o1]
            by_cases o2 : a 2 299 (6 * p + i) ≤ lo
            · rw [if_pos o2]; exact q1
            · rw [if_neg o2, if_pos (Classical.byContradiction fun o3 => on ⟨o1, by omega, o3⟩)]
              exact q1
          · rw [if_neg o1]; exact q1
        all_goals (first | (intros; omega) | (intros; assumption))
  obtain ⟨h2, q⟩ := loop (a 2 297 p).toNat 0 (by omega) (by omega) h1 L (9, 0) (9, 0) (9, 0) hL hF (by rw [Int.add_zero]; exact hn)
  rw [Int.add_zero] at q
  exact ⟨h2, rX3_addVirtuals_0.trans q.1, q.2⟩
end CV

