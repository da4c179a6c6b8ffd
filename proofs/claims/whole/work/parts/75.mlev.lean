section MN
variable {h : vH} {n : Nat} {s I G : Int → Int} {o B : Int}
theorem M_levels (sM : shModel h) {c w : Int} (hc : 0 ≤ c ∧ c < 140) (hs : h 2 311 c = s c) (hw : w = 0 ∨ w = 1) (hB : 0 ≤ B ∧ B ≤ 400) : vcl mX13_levels [(1, 282), (0, c), (0, w), (0, B)] h = some (.inl none, vup h 2 316 c (lvO s B c w)) := by
  have e : (B + (B + w) % 2 + (if w = 1 ∧ ¬ (h 2 311 c < 48) ∧ ¬ (57 < h 2 311 c) then 1 else 0)) = lvO s B c w := by
    unfold lvO fig
    rw [hs]
    by_cases z : w = 1 ∧ ¬ (s c < 48) ∧ ¬ (57 < s c)
    · rw [if_pos z, if_pos z]
    · rw [if_neg z, if_neg z]
  have up : (if w = 1 ∧ ¬ (h 2 311 c < 48) ∧ ¬ (57 < h 2 311 c) then (1 : Int) else 0) ≤ 1 := by split <;> omega
  refine (show _ = _ from rX13_levels_0 (by omega) (by omega) (by omega) (by omega) (by omega) sM (by omega) (by omega) (by omega) (by omega) (by omega)).trans ?_
  rw [e]
theorem nxW_in {b : Int} (hb : b = 0 ∨ b = 1) : ∀ (L : List Int), (∀ j ∈ L, isW (G j)) → nxW G b L = 0 ∨ nxW G b L = 1
  | [], _ => hb
  | c :: r, h => by
    unfold nxW
    split
    · exact nxW_in hb r (fun j hj => h j (List.mem_cons_of_mem _ hj))
    · rename_i z
      exact (h c List.mem_cons_self).resolve_left z
theorem M_neutral (sM : shModel h) (hn : h 1540 282 0 = (n : Int)) (h131 : n ≤ 131) (hs : ∀ k : Int, 0 ≤ k → k < n → h 2 311 k = s k) (hI : ∀ k : Int, 0 ≤ k → k < n → h 2 322 k = I k) (hB : 0 ≤ B ∧ B ≤ 400) (hG : ∀ j ∈ Ch I o n 0, h 2 321 j = G j) (hW : ∀ j ∈ Ch I o n 0, isW (G j)) :
    ∃ h2, vcl mX13_neutral [(1, 282), (0, o), (0, B % 2), (0, B)] h = some (.inl none, h2) ∧ mF [316] [] h h2 ∧ (∀ j ∈ Ch I o n 0, h2 2 316 j = nuL s G B (B % 2) (Ch I o n 0) j) ∧ ∀ j, ¬ j ∈ Ch I o n 0 → h2 2 316 j = h 2 316 j := by
  have b01 : B % 2 = 0 ∨ B % 2 = 1 := by omega
  have inner : ∀ (h1 : vH), mF [316] [] h h1 → ∀ (f : Nat) (i x k : Int) (v7 : vv), i + f = n → 0 ≤ i → ∃ y, vrun mX13_neutral 43 [(1, 282), (0, o), (0, B % 2), (0, B), (0, x), (0, k), (0, i), v7] [] h1 = vret vrun mX13_neutral 119 [(1, 282), (0, o), (0, B % 2), (0, B), (0, x), (0, k), (0, y), (0, nxW G (B % 2) (Ch I o f i))] [] (vcl mX13_levels [(1, 282), (0, k), (0, if x = nxW G (B % 2) (Ch I o f i) then x else B % 2), (0, B)] h1) := by
    intro h1 hF f
    have sM1 := shModel_sx (mF_sx hF (by decide)) sM
    have e0 : h1 1540 282 0 = (n : Int) := (hF _ _ _ (by simp) (by simp)).trans hn
    induction f with
    | zero =>
      intro i x k v7 hi h0
      refine ⟨i, ?_⟩
      rw [rX13_neutral_43 sM1, if_pos (by omega)]
      · rw [if_pos (show h1 1540 282 0 ≤ i by omega)]
        rfl
      all_goals (first | (intros; omega) | assumption)
    | succ f ih =>
      intro i x k v7 hi h0
      have e2 : h1 2 322 i = I i := (hF _ _ _ (by simp) (by simp)).trans (hI i h0 (by omega))
      have ng : ¬ h1 1540 282 0 ≤ i := by omega
      by_cases c : I i = o
      · have e3 : h1 2 321 i = G i := (hF _ _ _ (by simp) (by simp)).trans (hG i ((Ch_mem n 0 i).mpr ⟨h0, by omega, c⟩))
        rw [Ch_yes c]
        by_cases g : G i = -1
        · obtain ⟨y, a⟩ := ih (i + 1) x k v7 (by omega) (by omega)
          refine ⟨y, ?_⟩
          have d : nxW G (B % 2) (i :: Ch I o f (i + 1)) = nxW G (B % 2) (Ch I o f (i + 1)) := if_pos g
          rw [rX13_neutral_43 sM1, if_neg ng, if_pos (e2.trans c), if_pos (e3.trans g), d]
          · exact a
          all_goals (first | (intros; omega) | assumption)
        · refine ⟨i, ?_⟩
          have d : nxW G (B % 2) (i :: Ch I o f (i + 1)) = G i := if_neg g
          have g2 : ¬ h1 2 321 i = -1 := by rw [e3]; exact g
          rw [rX13_neutral_43 sM1, if_neg ng, if_pos (e2.trans c), if_neg g2, if_neg ng, e3, d]
          all_goals (first | (intros; omega) | assumption)
      · obtain ⟨y, a⟩ := ih (i + 1) x k v7 (by omega) (by omega)
        refine ⟨y, ?_⟩
        have n2 : ¬ h1 2 322 i = o := by rw [e2]; exact c
        rw [rX13_neutral_43 sM1, if_neg ng, if_neg n2, Ch_no c]
        · exact a
        all_goals (first | (intros; omega) | assumption)
  have loop : ∀ (f : Nat) (k x : Int) (h1 : vH) (v6 v7 : vv), k + f = n → 0 ≤ k → (x = 0 ∨ x = 1) → mF [316] [] h h1 →
      ∃ h2, vrun mX13_neutral 6 [(1, 282), (0, o), (0, B % 2), (0, B), (0, x), (0, k), v6, v7] [] h1 = some (.inl none, h2) ∧ mF [316] [] h h2 ∧ (∀ j ∈ Ch I o f k, h2 2 316 j = nuL s G B x (Ch I o f k) j) ∧ ∀ j, ¬ j ∈ Ch I o f k → h2 2 316 j = h1 2 316 j := by
    intro f
    induction f with
    | zero =>
      intro k x h1 v6 v7 hk h0 hx hF
      have e0 : h1 1540 282 0 = (n : Int) := (hF _ _ _ (by simp) (by simp)).trans hn
      refine ⟨h1, ?_, hF, fun j hj => (by cases hj), fun _ _ => rfl⟩
      rw [rX13_neutral_6 (shModel_sx (mF_sx hF (by decide)) sM), if_pos (by omega)]
      all_goals (first | (intros; omega) | assumption)
    | succ f ih =>
      intro k x h1 v6 v7 hk h0 hx hF
      have sM1 := shModel_sx (mF_sx hF (by decide)) sM
      have e0 : h1 1540 282 0 = (n : Int) := (hF _ _ _ (by simp) (by simp)).trans hn
      have e1 : h1 2 311 k = s k := (hF _ _ _ (by simp) (by simp)).trans (hs k h0 (by omega))
      have e2 : h1 2 322 k = I k := (hF _ _ _ (by simp) (by simp)).trans (hI k h0 (by omega))
      by_cases c : I k = o
      · have kin : k ∈ Ch I o n 0 := (Ch_mem n 0 k).mpr ⟨h0, by omega, c⟩
        have e3 : h1 2 321 k = G k := (hF _ _ _ (by simp) (by simp)).trans (hG k kin)
        have nk : ¬ k ∈ Ch I o f (k + 1) := fun z => by have := (Ch_mem f (k + 1) k).mp z; omega
        by_cases g : G k = -1
        · obtain ⟨y, a⟩ := inner h1 hF f (k + 1) x k v7 (by omega) (by omega)
          have nx := nxW_in (G := G) b01 (Ch I o f (k + 1)) (fun j hj => hW j (by
            have := (Ch_mem f (k + 1) j).mp hj
            exact (Ch_mem n 0 j).mpr ⟨by omega, by omega, this.2.2⟩))
          have lv := M_levels (s := s) (B := B) sM1 (c := k) (w := if x = nxW G (B % 2) (Ch I o f (k + 1)) then x else B % 2) ⟨h0, by omega⟩ e1 (by split <;> assumption) hB
          obtain ⟨h2, a1, a2, a3, a4⟩ := ih (k + 1) x _ (0, y) (0, nxW G (B % 2) (Ch I o f (k + 1))) (by omega) (by omega) hx (mF_up (k := 2) (r := 316) (i := k) (v := lvO s B k (if x = nxW G (B % 2) (Ch I o f (k + 1)) then x else B % 2)) hF (Or.inl ⟨rfl, by decide⟩))
          refine ⟨h2, ?_, a2, fun j hj => ?_, fun j hj => ?_⟩
          · rw [rX13_neutral_6 sM1, if_neg (by omega), if_pos (e2.trans c), if_pos (e3.trans g), a]
            · refine (vret_n lv).trans ((rX13_neutral_122 (by omega) (by omega)).trans ?_)
              exact a1
            all_goals (first | (intros; omega) | assumption)
          · rw [Ch_yes c] at hj ⊢
            have d : nuL s G B x (k :: Ch I o f (k + 1)) j = if j = k then lvO s B k (if x = nxW G (B % 2) (Ch I o f (k + 1)) then x else B % 2) else nuL s G B x (Ch I o f (k + 1)) j := if_pos g
            rw [d]
            by_cases z : j = k
            · rw [if_pos z, z, a4 k nk, vup_s]
            · rw [if_neg z]
              exact a3 j ((List.mem_cons.mp hj).resolve_left z)
          · rw [Ch_yes c] at hj
            have z : j ≠ k := fun z => hj (by rw [z]; exact List.mem_cons_self)
            rw [a4 j (fun y => hj (List.mem_cons_of_mem _ y)), vup_2, if_neg z]
        · have w01 := (hW k kin).resolve_left g
          have g2 : ¬ h1 2 321 k = -1 := by rw [e3]; exact g
          have lv := M_levels (s := s) (B := B) sM1 (c := k) (w := G k) ⟨h0, by omega⟩ e1 w01 hB
          obtain ⟨h2, a1, a2, a3, a4⟩ := ih (k + 1) (G k) _ v6 v7 (by omega) (by omega) w01 (mF_up (k := 2) (r := 316) (i := k) (v := lvO s B k (G k)) hF (Or.inl ⟨rfl, by decide⟩))
          refine ⟨h2, ?_, a2, fun j hj => ?_, fun j hj => ?_⟩
          · rw [rX13_neutral_6 sM1, if_neg (by omega), if_pos (e2.trans c), if_neg g2, if_pos (e2.trans c), e3]
            · refine (vret_n lv).trans ((rX13_neutral_159 (by omega) (by omega)).trans ?_)
              exact a1
            all_goals (first | (intros; omega) | assumption)
          · rw [Ch_yes c] at hj ⊢
            have d : nuL s G B x (k :: Ch I o f (k + 1)) j = if j = k then lvO s B k (G k) else nuL s G B (G k) (Ch I o f (k + 1)) j := if_neg g
            rw [d]
            by_cases z : j = k
            · rw [if_pos z, z, a4 k nk, vup_s]
            · rw [if_neg z]
              exact a3 j ((List.mem_cons.mp hj).resolve_left z)
          · rw [Ch_yes c] at hj
            have z : j ≠ k := fun z => hj (by rw [z]; exact List.mem_cons_self)
            rw [a4 j (fun y => hj (List.mem_cons_of_mem _ y)), vup_2, if_neg z]
      · have n2 : ¬ h1 2 322 k = o := by rw [e2]; exact c
        obtain ⟨h2, a1, a2, a3, a4⟩ := ih (k + 1) x h1 v6 v7 (by omega) (by omega) hx hF
        refine ⟨h2, ?_, a2, by rw [Ch_no c]; exact a3, by rw [Ch_no c]; exact a4⟩
        rw [rX13_neutral_6 sM1, if_neg (by omega), if_neg n2, if_neg n2]
        · exact a1
        all_goals (first | (intros; omega) | assumption)
  obtain ⟨h2, a1, a2, a3, a4⟩ := loop n 0 (B % 2) h (9, 0) (9, 0) (by omega) (by omega) b01 mF_rf
  exact ⟨h2, rX13_neutral_0.trans a1, a2, a3, a4⟩
theorem stW_in {b : Int} (hb : b = 0 ∨ b = 1) : ∀ (L : List Int) (x : Int), (x = 0 ∨ x = 1) → ∀ j, isW (stW s x L j)
  | [], _, _, _ => Or.inl rfl
  | c :: r, x, hx, j => by
    unfold stW
    dsimp only
    by_cases w : wy (s c) = -1
    · rw [if_pos w, if_pos w]
      split
      · split
        · exact Or.inr hx
        · exact Or.inl rfl
      · exact stW_in hb r x hx j
    · rw [if_neg w, if_neg w]
      have w2 : wy (s c) = 0 ∨ wy (s c) = 1 := by rcases wy_in (s c) with z | z | z <;> omega
      split
      · exact Or.inr w2
      · exact stW_in hb r _ w2 j
abbrev lA : List Int := [323, 325, 321, 316]
/-- the levels of a sequence -/
theorem M_levelsOf (sM : shModel h) (hn : h 1540 282 0 = (n : Int)) (h131 : n ≤ 131) (hs : ∀ k : Int, 0 ≤ k → k < n → h 2 311 k = s k) (hI : ∀ k : Int, 0 ≤ k → k < n → h 2 322 k = I k) (hB : 0 ≤ B ∧ B ≤ 400) :
    ∃ h2, vcl mX13_levelsOf [(1, 282), (0, o), (0, B)] h = some (.inl none, h2) ∧ mF lA [] h h2 ∧ (∀ j ∈ Ch I o n 0, h2 2 316 j = sqL s I o B (Ch I o n 0) j) ∧ (∀ j, ¬ j ∈ Ch I o n 0 → h2 2 316 j = h 2 316 j) ∧ (∀ j : Int, 0 ≤ j → j < n → (¬ I j = o ∨ s j = 60 ∨ s j = 62) → h2 2 323 j = h 2 323 j) := by
  have b01 : B % 2 = 0 ∨ B % 2 = 1 := by omega
  obtain ⟨h1, a1, a2, a3, a4⟩ := M_pairs (o := o) sM hn h131 hs hI
  have f1 : mF lA [] h h1 := mF_le a2 (by decide) (by decide)
  have sM1 := shModel_sx (mF_sx f1 (by decide)) sM
  have n1 : h1 1540 282 0 = (n : Int) := (f1 _ _ _ (by simp) (by simp)).trans hn
  have s1 : ∀ k : Int, 0 ≤ k → k < n → h1 2 311 k = s k := fun k u v => (f1 _ _ _ (by simp) (by simp)).trans (hs k u v)
  have i1 : ∀ k : Int, 0 ≤ k → k < n → h1 2 322 k = I k := fun k u v => (f1 _ _ _ (by simp) (by simp)).trans (hI k u v)
  obtain ⟨h2, b1, b2, b3⟩ := M_strong (o := o) (b := B % 2) sM1 n1 h131 s1 i1
  have f2 : mF lA [] h h2 := mF_tr f1 (mF_le b2 (by decide) (by decide))
  have sM2 := shModel_sx (mF_sx f2 (by decide)) sM
  have n2 : h2 1540 282 0 = (n : Int) := (f2 _ _ _ (by simp) (by simp)).trans hn
  have s2 : ∀ k : Int, 0 ≤ k → k < n → h2 2 311 k = s k := fun k u v => (f2 _ _ _ (by simp) (by simp)).trans (hs k u v)
  have i2 : ∀ k : Int, 0 ≤ k → k < n → h2 2 322 k = I k := fun k u v => (f2 _ _ _ (by simp) (by simp)).trans (hI k u v)
  obtain ⟨h3, c1, c2, c3, c4⟩ := M_brackets (s := s) (m := prB s (Ch I o n 0) [] (fun _ => -1)) (G := stW s (B % 2) (Ch I o n 0)) sM2 n2 h131 s2 i2 b01 (fun j hj z => (b2 _ _ _ (by simp) (by simp)).trans (a3 j hj z)) (fun j => by
    have := prB_in (s := s) (I := I) (o := o) n 0 [] (fun _ => -1) (fun j hj => by cases hj) (fun _ => Or.inl rfl) (Int.le_refl _) j
    rw [Int.zero_add] at this
    exact this) b3 (fun j _ => stW_in b01 _ _ b01 j)
  have f3 : mF lA [] h h3 := mF_tr f2 (mF_le c2 (by decide) (by decide))
  have sM3 := shModel_sx (mF_sx f3 (by decide)) sM
  obtain ⟨h4, d1, d2, d3, d4⟩ := M_neutral (s := s) (I := I) (o := o) (B := B) sM3 ((f3 _ _ _ (by simp) (by simp)).trans hn) h131 (fun k u v => (f3 _ _ _ (by simp) (by simp)).trans (hs k u v)) (fun k u v => (f3 _ _ _ (by simp) (by simp)).trans (hI k u v)) hB c3 c4
  refine ⟨h4, ?_, mF_tr f3 (mF_le d2 (by decide) (by decide)), d3, fun j hj => ?_, fun j u v w => ?_⟩
  · refine (rX13_levelsOf_0 hB.1 sM).trans ((vret_n a1).trans ?_)
    refine (rX13_levelsOf_9 sM1).trans ((vret_n b1).trans ?_)
    refine (rX13_levelsOf_15 sM2).trans ((vret_n c1).trans ?_)
    refine (rX13_levelsOf_21 sM3).trans ((vret_n d1).trans ?_)
    exact rX13_levelsOf_28
  · rw [d4 j hj, c2 _ _ _ (by simp) (by simp), b2 _ _ _ (by simp) (by simp), a2 _ _ _ (by simp) (by simp)]
  · rw [d2 _ _ _ (by simp) (by simp), c2 _ _ _ (by simp) (by simp), b2 _ _ _ (by simp) (by simp)]
    exact a4 j u v w
end MN
