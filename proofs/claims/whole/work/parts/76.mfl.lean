/-! the levels of a line -/
section LV
variable (s : Int → Int) (n : Nat)
/-- the < that encloses a cluster -/
def lI : Int → Int := fun c => inI s (iso s n).2 c.toNat
def lM : Int → Int := (iso s n).2
def wy1 (o : Int) : Int := if fW s (Ch (lI s n) o n 0) = 1 then 1 else 0
/-- the base of the line, and those of the < before k -/
def lB0 : Int := wy1 s n (-1)
def lBs : Nat → Int → Int
  | 0 => fun _ => -1
  | k + 1 => if s k = 60 ∧ ¬ lM s n k = -1 then ipd (lBs k) k ((if lI s n k = -1 then lB0 s n else lBs k (lI s n k)) + 1 + ((if lI s n k = -1 then lB0 s n else lBs k (lI s n k)) + 1 + wy1 s n k) % 2) else lBs k
def lB (o : Int) : Int := if o = -1 then lB0 s n else lBs s n n o
noncomputable def lL (j : Int) : Int := sqL s (lI s n) (lI s n j) (lB s n (lI s n j)) (Ch (lI s n) (lI s n j) n 0) j
variable {s : Int → Int} {n : Nat}
theorem lI_in {k : Nat} (hk : k < n) : lI s n k = -1 ∨ (0 ≤ lI s n k ∧ lI s n k < k ∧ s (lI s n k) = 60 ∧ ¬ lM s n (lI s n k) = -1) := by
  have e : lI s n k = (insP s (iso s n).2 (ins s (iso s n).2 k) k).headD (-1) := by
    show inI s (iso s n).2 ((k : Int).toNat) = _
    rw [show ((k : Int).toNat) = k by omega]
    rfl
  have sub : ∀ j ∈ insP s (iso s n).2 (ins s (iso s n).2 k) k, j ∈ ins s (iso s n).2 k := by
    intro j hj
    unfold insP at hj
    split at hj
    · exact List.mem_of_mem_tail hj
    · exact hj
  cases q : insP s (iso s n).2 (ins s (iso s n).2 k) k with
  | nil => rw [q] at e; exact Or.inl e
  | cons a r =>
    rw [q] at e
    have e : lI s n k = a := e
    have m := sub a (by rw [q]; exact List.mem_cons_self)
    rw [ins_iso k (by omega), List.mem_filter] at m
    have iv := (iso_inv (s := s) k).1 a m.1
    rw [e]
    exact Or.inr ⟨iv.1, iv.2.1, iv.2.2.1, by simpa [lM] using m.2⟩
theorem wy1_in {o : Int} : 0 ≤ wy1 s n o ∧ wy1 s n o ≤ 1 := by unfold wy1; split <;> omega
theorem lBs_in : ∀ k : Nat, k ≤ n → ∀ j : Nat, j < k → s j = 60 → ¬ lM s n j = -1 → 0 ≤ lBs s n k j ∧ lBs s n k j ≤ 2 * j + 3
  | 0, _, j, hj, _, _ => absurd hj (Nat.not_lt_zero j)
  | k + 1, hk, j, hj, h60, hm => by
    have w := wy1_in (s := s) (n := n) (o := k)
    have w0 := wy1_in (s := s) (n := n) (o := -1)
    have ih := lBs_in k (by omega)
    unfold lBs
    by_cases c : s k = 60 ∧ ¬ lM s n k = -1
    · rw [if_pos c]
      unfold ipd
      by_cases z : j = k
      · rw [if_pos (by omega)]
        subst z
        rcases lI_in (s := s) (n := n) (k := j) (by omega) with y | y
        · rw [if_pos y]
          unfold lB0
          omega
        · rw [if_neg (by omega)]
          have := ih (lI s n j).toNat (by omega) (by rw [show (((lI s n j).toNat : Nat) : Int) = lI s n j by omega]; exact y.2.2.1) (by rw [show (((lI s n j).toNat : Nat) : Int) = lI s n j by omega]; exact y.2.2.2)
          rw [show (((lI s n j).toNat : Nat) : Int) = lI s n j by omega] at this
          omega
      · rw [if_neg (by omega)]
        exact ih j (by omega) h60 hm
    · rw [if_neg c]
      have : j ≠ k := fun z => c (by subst z; exact ⟨h60, hm⟩)
      exact ih j (by omega) h60 hm
theorem lBs_keep {j : Nat} : ∀ k : Nat, j < k → lBs s n k j = lBs s n (j + 1) j
  | 0, h => absurd h (Nat.not_lt_zero j)
  | k + 1, h => by
    by_cases z : j = k
    · subst z; rfl
    · rw [← lBs_keep k (by omega)]
      show (if s k = 60 ∧ ¬ lM s n k = -1 then ipd (lBs s n k) k _ else lBs s n k) j = _
      split
      · unfold ipd
        rw [if_neg (by omega)]
      · rfl
end LV
section MFL
variable {h : vH} {n : Nat} {s : Int → Int}
abbrev gA : List Int := [323, 325, 321, 316, 322, 324]
abbrev gK : List Nat := [1548]
/-- THE REFERENCE FINDS THE LEVELS OF A LINE -/
theorem M_findsLevels (sM : shModel h) (hn : h 1540 282 0 = (n : Int)) (h131 : n ≤ 131) (hs : ∀ k : Int, 0 ≤ k → k < n → h 2 311 k = s k) :
    ∃ h2, vcl mX13_findsLevels [(1, 282)] h = some (.inl none, h2) ∧ mF gA gK h h2 ∧ (∀ j : Nat, j < n → h2 2 316 j = lL s n j) ∧ h2 1548 282 0 = lB0 s n := by
  have w0 := wy1_in (s := s) (n := n) (o := -1)
  obtain ⟨h1, a1, a2, a3, a4⟩ := M_encl sM hn h131 hs
  have f1 : mF gA gK h h1 := mF_le a2 (by decide) (by decide)
  have sM1 := shModel_sx (mF_sx f1 (by decide)) sM
  have n1 : h1 1540 282 0 = (n : Int) := (f1 _ _ _ (by simp) (by simp)).trans hn
  have s1 : ∀ k : Int, 0 ≤ k → k < n → h1 2 311 k = s k := fun k u v => (f1 _ _ _ (by simp) (by simp)).trans (hs k u v)
  have i1 : ∀ k : Int, 0 ≤ k → k < n → h1 2 322 k = lI s n k := fun k u v => by
    have := a4 k.toNat (by omega)
    rw [show ((k.toNat : Nat) : Int) = k by omega] at this
    exact this
  have w1 := M_firstWay (o := -1) sM1 n1 h131 s1 i1
  -- base is emptied
  have f2 : mF gA gK h (vup h1 1548 282 0 (lB0 s n)) := mF_up f1 (Or.inr ⟨rfl, by decide⟩)
  have clr : ∀ (f : Nat) (k : Int) (h3 : vH), k + f = n → 0 ≤ k → mF [324] [] (vup h1 1548 282 0 (lB0 s n)) h3 → ∃ h4, vrun mX13_findsLevels 24 [(1, 282), (0, k), (9, 0), (9, 0)] [] h3 = vret vrun mX13_findsLevels 51 [(1, 282), (0, n), (9, 0), (9, 0)] [] (vcl mX13_levelsOf [(1, 282), (0, -1), (0, lB0 s n)] h4) ∧ mF [324] [] (vup h1 1548 282 0 (lB0 s n)) h4 := by
    intro f
    induction f with
    | zero =>
      intro k h3 hk h0 hF
      have ff := mF_tr f2 (mF_le hF (B := gA) (J := gK) (by decide) (by decide))
      have sM3 := shModel_sx (mF_sx ff (by decide)) sM
      have e0 : h3 1540 282 0 = (n : Int) := (ff _ _ _ (by simp) (by simp)).trans hn
      have e1 : h3 1548 282 0 = lB0 s n := (hF _ _ _ (by simp) (by simp)).trans vup_s
      refine ⟨h3, ?_, hF⟩
      rw [rX13_findsLevels_24 sM3, if_pos (by omega), e1, show k = (n : Int) by omega]
      all_goals (first | (intros; omega) | assumption)
    | succ f ih =>
      intro k h3 hk h0 hF
      have ff := mF_tr f2 (mF_le hF (B := gA) (J := gK) (by decide) (by decide))
      have sM3 := shModel_sx (mF_sx ff (by decide)) sM
      have e0 : h3 1540 282 0 = (n : Int) := (ff _ _ _ (by simp) (by simp)).trans hn
      obtain ⟨h4, b1, b2⟩ := ih (k + 1) (vup h3 2 324 k (-1)) (by omega) (by omega) (mF_up hF (Or.inl ⟨rfl, by decide⟩))
      refine ⟨h4, ?_, b2⟩
      rw [rX13_findsLevels_24 sM3, if_neg (by omega), b1]
      all_goals (first | (intros; omega) | assumption)
  obtain ⟨h4, c1, c2⟩ := clr n 0 _ (by omega) (by omega) mF_rf
  have f4 : mF gA gK h h4 := mF_tr f2 (mF_le c2 (by decide) (by decide))
  have sM4 := shModel_sx (mF_sx f4 (by decide)) sM
  have n4 : h4 1540 282 0 = (n : Int) := (f4 _ _ _ (by simp) (by simp)).trans hn
  have s4 : ∀ k : Int, 0 ≤ k → k < n → h4 2 311 k = s k := fun k u v => (f4 _ _ _ (by simp) (by simp)).trans (hs k u v)
  have i4 : ∀ k : Int, 0 ≤ k → k < n → h4 2 322 k = lI s n k := fun k u v => (c2 _ _ _ (by simp) (by simp)).trans ((vup_k (by decide)).trans (i1 k u v))
  have m4 : ∀ k : Int, 0 ≤ k → k < n → h4 2 323 k = lM s n k := fun k u v => (c2 _ _ _ (by simp) (by simp)).trans ((vup_k (by decide)).trans (a3 k u v))
  obtain ⟨h5, d1, d2, d3, d4, d5⟩ := M_levelsOf (o := -1) (B := lB0 s n) sM4 n4 h131 s4 i4 (by unfold lB0; omega)
  have f5 : mF gA gK h h5 := mF_tr f4 (mF_le d2 (by decide) (by decide))
  have loop : ∀ (f k : Nat) (h6 : vH) (v2 v3 : vv), k + f = n → mF gA gK h h6 → (∀ j : Int, 0 ≤ j → j < n → h6 2 322 j = lI s n j) → (∀ j : Int, 0 ≤ j → j < n → (s j = 60 ∨ s j = 62) → h6 2 323 j = lM s n j) → (∀ j : Nat, j < k → s j = 60 → ¬ lM s n j = -1 → h6 2 324 j = lBs s n n j) → (∀ j : Nat, j < n → lI s n j < k → h6 2 316 j = lL s n j) → h6 1548 282 0 = lB0 s n →
      ∃ h7, vrun mX13_findsLevels 56 [(1, 282), (0, k), v2, v3] [] h6 = some (.inl none, h7) ∧ mF gA gK h h7 ∧ (∀ j : Nat, j < n → h7 2 316 j = lL s n j) ∧ h7 1548 282 0 = lB0 s n := by
    intro f
    induction f with
    | zero =>
      intro k h6 v2 v3 hk hF hi hm hb hl hlb
      have sM6 := shModel_sx (mF_sx hF (by decide)) sM
      have e0 : h6 1540 282 0 = (n : Int) := (hF _ _ _ (by simp) (by simp)).trans hn
      refine ⟨h6, ?_, hF, fun j hj => hl j hj ?_, hlb⟩
      · rw [rX13_findsLevels_56 sM6, if_pos (by omega)]
        all_goals (first | (intros; omega) | assumption)
      · rcases lI_in (s := s) (n := n) (k := j) hj with y | y <;> omega
    | succ f ih =>
      intro k h6 v2 v3 hk hF hi hm hb hl hlb
      have sM6 := shModel_sx (mF_sx hF (by decide)) sM
      have e0 : h6 1540 282 0 = (n : Int) := (hF _ _ _ (by simp) (by simp)).trans hn
      have s6 : ∀ k : Int, 0 ≤ k → k < n → h6 2 311 k = s k := fun k u v => (hF _ _ _ (by simp) (by simp)).trans (hs k u v)
      have e1 := s6 k (by omega) (by omega)
      have e2 := hi k (by omega) (by omega)
      by_cases c : s k = 60 ∧ ¬ lM s n k = -1
      · have e3 := hm k (by omega) (by omega) (Or.inl c.1)
        have wk := M_firstWay (o := k) sM6 e0 h131 s6 hi
        have wi := wy1_in (s := s) (n := n) (o := k)
        -- the base above
        have ab : (if lI s n k = -1 then h6 1548 282 0 else h6 2 324 (lI s n k)) = (if lI s n k = -1 then lB0 s n else lBs s n k (lI s n k)) := by
          rcases lI_in (s := s) (n := n) (k := k) (by omega) with y | y
          · rw [if_pos y, if_pos y, hlb]
          · rw [if_neg (by omega), if_neg (by omega)]
            have q : (((lI s n k).toNat : Nat) : Int) = lI s n k := by omega
            have := hb (lI s n k).toNat (by omega) (by rw [q]; exact y.2.2.1) (by rw [q]; exact y.2.2.2)
            rw [q] at this
            rw [this, ← q, lBs_keep n (by omega), lBs_keep k (by omega)]
        have nb : lBs s n (k + 1) k = (if lI s n k = -1 then lB0 s n else lBs s n k (lI s n k)) + 1 + ((if lI s n k = -1 then lB0 s n else lBs s n k (lI s n k)) + 1 + wy1 s n k) % 2 := by
          show (if s k = 60 ∧ ¬ lM s n k = -1 then ipd (lBs s n k) k _ else lBs s n k) k = _
          rw [if_pos c]
          exact if_pos rfl
        have bi := lBs_in (s := s) (n := n) (k + 1) (by omega) k (by omega) c.1 c.2
        have ai : 0 ≤ (if lI s n k = -1 then lB0 s n else lBs s n k (lI s n k)) ∧ (if lI s n k = -1 then lB0 s n else lBs s n k (lI s n k)) ≤ 300 := by
          rcases lI_in (s := s) (n := n) (k := k) (by omega) with y | y
          · rw [if_pos y]; unfold lB0; omega
          · rw [if_neg (by omega)]
            have q : (((lI s n k).toNat : Nat) : Int) = lI s n k := by omega
            have := lBs_in (s := s) (n := n) k (by omega) (lI s n k).toNat (by omega) (by rw [q]; exact y.2.2.1) (by rw [q]; exact y.2.2.2)
            rw [q] at this
            omega
        have fb : mF gA gK h (vup h6 2 324 k (lBs s n (k + 1) k)) := mF_up hF (Or.inl ⟨rfl, by decide⟩)
        have sM7 := shModel_sx (mF_sx fb (by decide)) sM
        obtain ⟨h8, g1, g2, g3, g4, g5⟩ := M_levelsOf (o := k) (B := lBs s n (k + 1) k) sM7 ((fb _ _ _ (by simp) (by simp)).trans hn) h131 (fun j u v => (fb _ _ _ (by simp) (by simp)).trans (hs j u v)) (fun j u v => (vup_r (by decide)).trans (hi j u v)) (by omega)
        have keep : ∀ j : Int, h8 2 324 j = (vup h6 2 324 k (lBs s n (k + 1) k)) 2 324 j := fun j => g2 _ _ _ (by simp) (by simp)
        obtain ⟨h7, q1, q2, q3, q4⟩ := ih (k + 1) h8 (0, if lI s n k = -1 then lB0 s n else lBs s n k (lI s n k)) (0, wy1 s n k) (by omega) (mF_tr fb (mF_le g2 (by decide) (by decide))) (fun j u v => (g2 _ _ _ (by simp) (by simp)).trans ((vup_r (by decide)).trans (hi j u v))) (fun j u v w => (g5 j u v (Or.inr w)).trans ((vup_r (by decide)).trans (hm j u v w))) (fun j hj u v => by
          rw [keep, vup_2]
          by_cases z : j = k
          · subst z; rw [if_pos rfl, lBs_keep n (by omega)]
          · rw [if_neg (by omega)]
            exact hb j (by omega) u v) (fun j hj hlt => by
          by_cases z : lI s n j = k
          · have jm : (j : Int) ∈ Ch (lI s n) k n 0 := (Ch_mem n 0 j).mpr ⟨by omega, by omega, z⟩
            rw [g3 j jm]
            unfold lL
            have lb : lB s n (k : Int) = lBs s n (k + 1) k := by
              unfold lB
              rw [if_neg (by omega), lBs_keep n (by omega)]
            rw [z, lb]
          · have jm : ¬ (j : Int) ∈ Ch (lI s n) k n 0 := fun q => z ((Ch_mem n 0 j).mp q).2.2
            rw [g4 j jm, vup_r (by decide)]
            exact hl j hj (by omega)) ((g2 _ _ _ (by simp) (by simp)).trans ((vup_k (by decide)).trans hlb))
        refine ⟨h7, ?_, q2, q3, q4⟩
        have n3 : ¬ h6 2 323 k = -1 := by rw [e3]; exact c.2
        rw [rX13_findsLevels_56 sM6, if_neg (by omega), if_pos (e1.trans c.1), if_neg n3, e2, ab]
        · refine (vret_v wk).trans ?_
          have ww : (if fW s (Ch (lI s n) k n 0) = 1 then (1 : Int) else 0) = wy1 s n k := rfl
          rw [show (116 : Nat) + 3 = 119 from rfl, rX13_findsLevels_119, ww, vup_s, ← nb]
          · refine (vret_n g1).trans ?_
            refine (rX13_findsLevels_157 (by omega) (by omega)).trans ?_
            exact q1
          all_goals (try rw [ww])
          all_goals (first | (intros; omega) | assumption)
        all_goals (try rw [e2])
        all_goals (try (rcases lI_in (s := s) (n := n) (k := k) (by omega) with y | y))
        all_goals (first | (intros; omega) | assumption)
      · obtain ⟨h7, q1, q2, q3, q4⟩ := ih (k + 1) h6 v2 v3 (by omega) hF hi hm (fun j hj u v => by
          have : j ≠ k := fun z => c (by subst z; exact ⟨u, v⟩)
          exact hb j (by omega) u v) (fun j hj hlt => by
          refine hl j hj ?_
          have : lI s n j ≠ k := fun z => by
            rcases lI_in (s := s) (n := n) (k := j) hj with y | y
            · omega
            · rw [z] at y; exact c ⟨y.2.2.1, y.2.2.2⟩
          omega) hlb
        refine ⟨h7, ?_, q2, q3, q4⟩
        rw [rX13_findsLevels_56 sM6, if_neg (by omega), e1]
        · by_cases z : s k = 60
          · have e3 := hm k (by omega) (by omega) (Or.inl z)
            rw [if_pos z, e3, if_pos (Classical.byContradiction fun y => c ⟨z, y⟩)]
            exact q1
          · rw [if_neg z]
            exact q1
        all_goals (try (rcases lI_in (s := s) (n := n) (k := k) (by omega) with y | y))
        all_goals (try rw [e2])
        all_goals (first | (intros; omega) | assumption)
  have lev5 : ∀ j : Nat, j < n → lI s n j < (0 : Nat) → h5 2 316 j = lL s n j := by
    intro j hj hlt
    have z : lI s n j = -1 := by
      rcases lI_in (s := s) (n := n) (k := j) hj with y | y <;> omega
    have jm : (j : Int) ∈ Ch (lI s n) (-1) n 0 := (Ch_mem n 0 j).mpr ⟨by omega, by omega, z⟩
    rw [d3 j jm]
    unfold lL
    rw [z]
    rfl
  obtain ⟨h7, q1, q2, q3, q4⟩ := loop n 0 h5 (9, 0) (9, 0) (by omega) f5 (fun j u v => (d2 _ _ _ (by simp) (by simp)).trans (i4 j u v)) (fun j u v w => (d5 j u v (Or.inr w)).trans (m4 j u v)) (fun j hj => absurd hj (Nat.not_lt_zero j)) lev5 ((d2 _ _ _ (by simp) (by simp)).trans ((c2 _ _ _ (by simp) (by simp)).trans vup_s))
  refine ⟨h7, ?_, q2, q3, q4⟩
  refine (rX13_findsLevels_0 sM).trans ((vret_n a1).trans ?_)
  refine (rX13_findsLevels_4 sM1).trans ((vret_v w1).trans ?_)
  refine (rX13_findsLevels_10 sM1).trans ?_
  refine Eq.trans ?_ (c1.trans ((vret_n d1).trans (rX13_findsLevels_54.trans q1)))
  rfl
end MFL
