theorem C_way {h : vH} {D g : Int} : fX0_wayOf h D g = wy g := by
  unfold fX0_wayOf wy
  by_cases a : g < 65
  · rw [if_pos a]
    rw [if_pos (show g < 97 by omega), if_pos (show g < 110 by omega), if_neg (by omega), if_neg (by omega)]
  · rw [if_neg a]
    by_cases b : 90 < g
    · rw [if_pos b]
      by_cases c : g < 97
      · rw [if_pos c, if_pos (by omega), if_neg (by omega), if_neg (by omega)]
      · rw [if_neg c]
        by_cases d : 109 < g
        · rw [if_pos d, if_neg (by omega)]
          by_cases e : 122 < g
          · rw [if_pos e, if_neg (by omega), if_neg (by omega)]
          · rw [if_neg e, if_pos (by omega)]
        · rw [if_neg d, if_neg (by omega), if_pos (by omega)]
    · rw [if_neg b]
      by_cases d : 109 < g - 65 + 97
      · rw [if_neg (by omega), if_pos d, if_neg (by omega), if_neg (by omega), if_pos (by omega)]
      · rw [if_neg (by omega), if_neg d, if_neg (by omega), if_pos (by omega)]
section CCH
variable {h : vH} {D y : Int} {n : Nat} {s : Int → Int}
theorem C_match (sD : shDirections h D) (sL : shLayout h y) (hyD : y + 9 < D) (hn : h 209 D 0 = (n : Int)) (h131 : n ≤ 131) (hs : ∀ k : Int, 0 ≤ k → k < n → h 2 (y + 1) k = s k) : ∃ h2, vcl mX0_matchIsolating [(1, D), (1, y)] h = some (.inl none, h2) ∧ yF D 1 7 1 0 h h2 ∧ ∀ j : Nat, j < n → h2 2 (D + 1) j = if s j = 60 then lM s n j else -1 := by
  have loop : ∀ (f k : Nat) (h1 : vH), k + f = n → yF D 1 7 1 0 h h1 → (iso s k).1.length ≤ k → stA h1 (D + 7) (iso s k).1 → (∀ j : Nat, j < k → h1 2 (D + 1) j = if s j = 60 then (iso s k).2 j else -1) → ∃ h2, vrun mX0_matchIsolating 4 [(1, D), (1, y), (0, (iso s k).1.length), (0, k)] [] h1 = some (.inl none, h2) ∧ yF D 1 7 1 0 h h2 ∧ ∀ j : Nat, j < n → h2 2 (D + 1) j = if s j = 60 then lM s n j else -1 := by
    intro f
    induction f with
    | zero =>
      intro k h1 hk hF hl hst hm
      have e0 : h1 209 D 0 = (n : Int) := (hF _ _ _ (by omega)).trans hn
      refine ⟨h1, ?_, hF, fun j hj => ?_⟩
      · rw [rX0_matchIsolating_4 (shDirections_sx (yF_0 hF) sD) (by omega) (shLayout_sx (yF_0 hF) sL), if_pos (by omega)]
        all_goals (first | (intros; omega) | assumption)
      · have e : k = n := by omega
        subst e
        exact hm j hj
    | succ f ih =>
      intro k h1 hk hF hl hst hm
      have e0 : h1 209 D 0 = (n : Int) := (hF _ _ _ (by omega)).trans hn
      have sD1 := shDirections_sx (yF_0 hF) sD
      have sL1 := shLayout_sx (yF_0 hF) sL
      have e1 : (vup h1 2 (D + 1) k (-1)) 2 (y + 1) k = s k := by
        rw [vup_r (by omega), hF _ _ _ (by omega)]
        exact hs k (by omega) (by omega)
      have iv := iso_inv (s := s) k
      have hF1 : yF D 1 7 1 0 h (vup h1 2 (D + 1) k (-1)) := yF_up hF (Or.inl ⟨rfl, by omega, by omega⟩)
      have st1 : stA (vup h1 2 (D + 1) k (-1)) (D + 7) (iso s k).1 := stA_eq hst (fun i _ => vup_r (by omega))
      have km : ∀ j : Nat, j < k + 1 → (vup h1 2 (D + 1) k (-1)) 2 (D + 1) j = if s j = 60 then (iso s k).2 j else -1 := by
        intro j hj
        rw [vup_2]
        by_cases z : j = k
        · rw [if_pos (by omega), z]
          split
          · exact (iv.2.2.1 k (Int.le_refl _)).symm
          · rfl
        · rw [if_neg (by omega)]
          exact hm j (by omega)
      by_cases c : s k = 60
      · have hF2 : yF D 1 7 1 0 h (vup (vup h1 2 (D + 1) k (-1)) 2 (D + 7) (iso s k).1.length k) := yF_up hF1 (Or.inl ⟨rfl, by omega, by omega⟩)
        have op := iso_open c
        obtain ⟨h2, a1, a2⟩ := ih (k + 1) (vup (vup h1 2 (D + 1) k (-1)) 2 (D + 7) (iso s k).1.length k) (by omega) hF2 (by rw [op, List.length_cons]; omega) (by rw [op]; exact stA_push st1) (fun j hj => by
          rw [vup_r (by omega), op]
          exact km j hj)
        refine ⟨h2, ?_, a2⟩
        rw [rX0_matchIsolating_4 sD1 (by omega) sL1, if_neg (by omega), if_neg (by omega), e1, if_pos c, if_neg (by omega)]
        · rw [op, List.length_cons] at a1
          exact a1
        all_goals (try rw [e1])
        all_goals (first | (intros; omega) | assumption)
      · by_cases d : s k = 62
        · cases e : (iso s k).1 with
          | nil =>
            have lo := iso_lone d e
            rw [e] at st1
            obtain ⟨h2, a1, a2⟩ := ih (k + 1) (vup h1 2 (D + 1) k (-1)) (by omega) hF1 (by rw [lo, e]; exact Nat.zero_le _) (by rw [lo, e]; exact st1) (fun j hj => by rw [lo]; exact km j hj)
            rw [lo, e] at a1
            refine ⟨h2, ?_, a2⟩
            rw [rX0_matchIsolating_4 sD1 (by omega) sL1, if_neg (by omega), if_neg (by omega), e1, if_neg c, if_pos d, if_pos (by simp)]
            · exact a1
            all_goals (try rw [e1])
            all_goals (try simp)
            all_goals (first | (intros; omega) | assumption)
          | cons o r =>
            have cl := iso_close d e
            rw [e] at st1 hl iv
            have ao := iv.1 o List.mem_cons_self
            have top : h1 2 (D + 7) ((o :: r).length + (-1 : Int)) = o := by
              have := stA_top st1
              rw [vup_r (by omega)] at this
              rw [List.length_cons, show ((r.length + 1 : Nat) : Int) + (-1) = r.length by omega]
              exact this
            rw [List.length_cons] at hl
            have hF2 : yF D 1 7 1 0 h (vup (vup h1 2 (D + 1) k (-1)) 2 (D + 1) o k) := yF_up hF1 (Or.inl ⟨rfl, by omega, by omega⟩)
            obtain ⟨h2, a1, a2⟩ := ih (k + 1) (vup (vup h1 2 (D + 1) k (-1)) 2 (D + 1) o k) (by omega) hF2 (by rw [cl]; dsimp only; omega) (by rw [cl]; exact stA_eq (stA_pop st1) (fun i _ => vup_r (by omega))) (fun j hj => by
              rw [cl, vup_2]
              dsimp only
              by_cases z : (j : Int) = o
              · rw [if_pos z, z, if_pos ao.2.2.1, if_neg (by omega), if_pos rfl]
              · rw [if_neg z, km j hj]
                by_cases w : (j : Int) = k
                · have sj : ¬ s j = 60 := by rw [w]; exact c
                  rw [if_neg sj, if_neg sj]
                · rw [if_neg w, if_neg z])
            rw [cl] at a1
            refine ⟨h2, ?_, a2⟩
            have ng : ¬ (((o :: r).length : Nat) : Int) ≤ 0 := by rw [List.length_cons]; omega
            have ex : (((o :: r).length : Nat) : Int) + -1 = (r.length : Int) := by rw [List.length_cons]; omega
            rw [rX0_matchIsolating_4 sD1 (by omega) sL1, if_neg (by omega), if_neg (by omega), e1, if_neg c, if_pos d, if_neg ng, top, ex]
            · have sp : vcl mX0_setPartner [(1, D), (0, o), (0, k)] (vup h1 2 (D + 1) k (-1)) = some (.inl none, vup (vup h1 2 (D + 1) k (-1)) 2 (D + 1) o k) := by
                refine (rX0_setPartner_0 (shDirections_sx (yF_0 hF1) sD)).trans ?_
                rw [if_neg (by omega), if_neg (by omega)]
              refine (vret_n sp).trans ?_
              refine (rX0_matchIsolating_86 (by omega) (by omega)).trans ?_
              exact a1
            all_goals (try rw [e1])
            all_goals (try rw [ex])
            all_goals (first | (intros; omega) | assumption)
        · have el := iso_else c d
          obtain ⟨h2, a1, a2⟩ := ih (k + 1) (vup h1 2 (D + 1) k (-1)) (by omega) hF1 (by rw [el]; omega) (by rw [el]; exact st1) (fun j hj => by rw [el]; exact km j hj)
          rw [el] at a1
          refine ⟨h2, ?_, a2⟩
          rw [rX0_matchIsolating_4 sD1 (by omega) sL1, if_neg (by omega), if_neg (by omega), e1, if_neg c, if_neg d]
          · exact a1
          all_goals (try rw [e1])
          all_goals (first | (intros; omega) | assumption)
  obtain ⟨h2, a⟩ := loop n 0 h (by omega) yF_rf (Nat.le_refl _) stA_nil (fun j hj => absurd hj (Nat.not_lt_zero j))
  exact ⟨h2, rX0_matchIsolating_0.trans a.1, a.2⟩
theorem Ch_len {I : Int → Int} {o : Int} : ∀ (f : Nat) (k : Int), (Ch I o f k).length ≤ f
  | 0, _ => Nat.le_refl _
  | f + 1, k => by
    have := Ch_len (I := I) (o := o) f (k + 1)
    by_cases e : I k = o
    · rw [Ch_yes e, List.length_cons]; omega
    · rw [Ch_no e]; omega
/-- the chain that the class keeps -/
def cArr (h : vH) (D : Int) (L : List Int) (s : Int → Int) : Prop := h 207 D 0 = (L.length : Int) ∧ ∀ (i : Nat) (c : Int), L[i]? = some c → h 2 (D + 3) i = c ∧ h 2 (D + 4) i = s c ∧ h 2 (D + 5) i = wy (s c) ∧ h 2 (D + 6) i = -1
theorem C_chainUp (sD : shDirections h D) (sL : shLayout h y) (hyD : y + 9 < D) (h131 : n ≤ 131) (hs : ∀ k : Int, 0 ≤ k → k < n → h 2 (y + 1) k = s k) (hm : ∀ j : Nat, j < n → h 2 (D + 1) j = if s j = 60 then lM s n j else -1) {o : Int} (ho : isSq s n o) : ∃ h2, vcl mX0_chainUp [(1, D), (1, y), (0, o + 1), (0, lEnd s n o)] h = some (.inl none, h2) ∧ yF D 3 6 207 207 h h2 ∧ cArr h2 D (Ch (lI s n) o n 0) s := by
  have en := lEnd_in ho
  have o1 : -1 ≤ o := by rcases ho with z | z <;> omega
  have nsx : ∀ {h1 : vH}, yF D 3 6 207 207 h h1 → sx h h1 := fun hF => yF_sx hF (fun k u v => by rw [show k = 207 by omega]; rfl)
  have loop : ∀ (f : Nat) (k : Nat) (P : List Int) (h1 : vH), lEnd s n o ≤ k + f → o < k → (k : Int) ≤ lEnd s n o → ((k : Int) = lEnd s n o ∨ lI s n k = o) → yF D 3 6 207 207 h h1 → P.length ≤ k → cArr h1 D P s → ∃ h2, vrun mX0_chainUp 12 [(1, D), (1, y), (0, o + 1), (0, lEnd s n o), (0, k)] [] h1 = some (.inl none, h2) ∧ yF D 3 6 207 207 h h2 ∧ cArr h2 D (P ++ Ch (lI s n) o (lEnd s n o - k).toNat k) s := by
    have fin : ∀ (k : Nat) (P : List Int) (h1 : vH), (k : Int) = lEnd s n o → yF D 3 6 207 207 h h1 → cArr h1 D P s → ∃ h2, vrun mX0_chainUp 12 [(1, D), (1, y), (0, o + 1), (0, lEnd s n o), (0, k)] [] h1 = some (.inl none, h2) ∧ yF D 3 6 207 207 h h2 ∧ cArr h2 D (P ++ Ch (lI s n) o (lEnd s n o - k).toNat k) s := by
      intro k P h1 e hF hc
      refine ⟨h1, ?_, hF, ?_⟩
      · rw [rX0_chainUp_12 (shDirections_sx (nsx hF) sD) (by omega) (shLayout_sx (nsx hF) sL), if_pos (by omega)]
        all_goals (first | (intros; omega) | assumption)
      · rw [show (lEnd s n o - (k : Int)).toNat = 0 by omega, show Ch (lI s n) o 0 k = [] from rfl, List.append_nil]
        exact hc
    intro f
    induction f with
    | zero =>
      intro k P h1 hf ha hb hi hF hP hc
      exact fin k P h1 (by omega) hF hc
    | succ f ih =>
      intro k P h1 hf ha hb hi hF hP hc
      by_cases e : (k : Int) = lEnd s n o
      · exact fin k P h1 e hF hc
      · have hi := hi.resolve_left e
        obtain ⟨q1, q2, q3, -⟩ := nxC_step ho ha (by omega) hi
        have stp := Ch_step ho ha (by omega) hi
        have sD1 := shDirections_sx (nsx hF) sD
        have sL1 := shLayout_sx (nsx hF) sL
        have e1 : h1 2 (y + 1) k = s k := (hF _ _ _ (by omega)).trans (hs k (by omega) (by omega))
        have e2 : h1 2 (D + 1) k = if s k = 60 then lM s n k else -1 := (hF _ _ _ (by omega)).trans (hm k (by omega))
        have mx : max ((k : Int) + 1) (h1 2 (D + 1) k) = nxC s n k := by
          rw [e2]
          unfold nxC
          by_cases c : s k = 60
          · rw [if_pos c]
            by_cases d : lM s n k = -1
            · rw [if_neg (fun z => z.2 d), d]; omega
            · rw [if_pos ⟨c, d⟩]
              have y := (lM_sym (s := s) (n := n) k).resolve_left d
              rcases y.2 with w | w <;> omega
          · rw [if_neg c, if_neg (fun z => c z.1)]; omega
        obtain ⟨c1, c2⟩ := hc
        obtain ⟨k', hk'⟩ : ∃ k' : Nat, nxC s n k = k' := ⟨(nxC s n k).toNat, by omega⟩
        rw [hk'] at mx q1 q2 q3 stp
        let h3 : vH := vup (vup (vup (vup (vup h1 2 (D + 3) P.length k) 2 (D + 4) P.length (s k)) 2 (D + 5) P.length (wy (s k))) 2 (D + 6) P.length (-1)) 207 D 0 (P.length + 1)
        have hF3 : yF D 3 6 207 207 h h3 := yF_up (yF_up (yF_up (yF_up (yF_up hF (Or.inl ⟨rfl, by omega, by omega⟩)) (Or.inl ⟨rfl, by omega, by omega⟩)) (Or.inl ⟨rfl, by omega, by omega⟩)) (Or.inl ⟨rfl, by omega, by omega⟩)) (Or.inr ⟨rfl, by decide, by decide⟩)
        have r3 : ∀ j : Int, h3 2 (D + 3) j = if j = P.length then (k : Int) else h1 2 (D + 3) j := fun j => by
          show (vup (vup (vup (vup (vup h1 2 (D + 3) P.length k) 2 (D + 4) P.length (s k)) 2 (D + 5) P.length (wy (s k))) 2 (D + 6) P.length (-1)) 207 D 0 (P.length + 1)) 2 (D + 3) j = _
          rw [vup_k (by decide), vup_r (by omega), vup_r (by omega), vup_r (by omega), vup_2]
        have r4 : ∀ j : Int, h3 2 (D + 4) j = if j = P.length then s k else h1 2 (D + 4) j := fun j => by
          show (vup (vup (vup (vup (vup h1 2 (D + 3) P.length k) 2 (D + 4) P.length (s k)) 2 (D + 5) P.length (wy (s k))) 2 (D + 6) P.length (-1)) 207 D 0 (P.length + 1)) 2 (D + 4) j = _
          rw [vup_k (by decide), vup_r (by omega), vup_r (by omega), vup_2, vup_r (by omega)]
        have r5 : ∀ j : Int, h3 2 (D + 5) j = if j = P.length then wy (s k) else h1 2 (D + 5) j := fun j => by
          show (vup (vup (vup (vup (vup h1 2 (D + 3) P.length k) 2 (D + 4) P.length (s k)) 2 (D + 5) P.length (wy (s k))) 2 (D + 6) P.length (-1)) 207 D 0 (P.length + 1)) 2 (D + 5) j = _
          rw [vup_k (by decide), vup_r (by omega), vup_2, vup_r (by omega), vup_r (by omega)]
        have r6 : ∀ j : Int, h3 2 (D + 6) j = if j = P.length then -1 else h1 2 (D + 6) j := fun j => by
          show (vup (vup (vup (vup (vup h1 2 (D + 3) P.length k) 2 (D + 4) P.length (s k)) 2 (D + 5) P.length (wy (s k))) 2 (D + 6) P.length (-1)) 207 D 0 (P.length + 1)) 2 (D + 6) j = _
          rw [vup_k (by decide), vup_2, vup_r (by omega), vup_r (by omega), vup_r (by omega)]
        have hc3 : cArr h3 D (P ++ [(k : Int)]) s := by
          refine ⟨?_, fun i c hi => ?_⟩
          · show vup _ 207 D 0 _ 207 D 0 = _
            rw [vup_s, List.length_append]; rfl
          · rw [r3, r4, r5, r6]
            by_cases z : i < P.length
            · rw [List.getElem?_append_left z] at hi
              rw [if_neg (by omega), if_neg (by omega), if_neg (by omega), if_neg (by omega)]
              exact c2 i c hi
            · rw [List.getElem?_append_right (by omega)] at hi
              have e2 : i = P.length := by
                have := (List.getElem?_eq_some_iff.mp hi).1
                simp at this
                omega
              subst e2
              simp at hi
              subst hi
              rw [if_pos rfl, if_pos rfl, if_pos rfl, if_pos rfl]
              exact ⟨rfl, rfl, rfl, rfl⟩
        obtain ⟨h2, a1, a2, a3⟩ := ih k' (P ++ [(k : Int)]) h3 (by omega) (by omega) q2 q3 hF3 (by rw [List.length_append]; simp; omega) hc3
        refine ⟨h2, ?_, a2, ?_⟩
        · rw [rX0_chainUp_12 sD1 (by omega) sL1, if_neg (by omega), if_neg (by omega), if_neg (by omega), c1, mx, C_way]
          · rw [← a1, vup_r (by omega), vup_r (by omega), vup_r (by omega), e1]
          all_goals (first | (intros; omega) | assumption)
        · rw [stp, show P ++ (k : Int) :: Ch (lI s n) o (lEnd s n o - k').toNat k' = P ++ [(k : Int)] ++ Ch (lI s n) o (lEnd s n o - k').toNat k' by simp]
          exact a3
  obtain ⟨k, hk⟩ : ∃ k : Nat, o + 1 = k := ⟨(o + 1).toNat, by omega⟩
  have hF0 : yF D 3 6 207 207 h (vup h 207 D 0 0) := yF_up yF_rf (Or.inr ⟨rfl, by decide, by decide⟩)
  obtain ⟨h2, a1, a2, a3⟩ := loop n k [] _ (by omega) (by omega) (by omega) (by
    by_cases e : o + 1 = lEnd s n o
    · exact Or.inl (by omega)
    · right
      rw [← hk]
      exact lI_first ho (by omega)) hF0 (Nat.zero_le _) ⟨vup_s, fun i c e => by cases e⟩
  refine ⟨h2, ?_, a2, ?_⟩
  · refine (rX0_chainUp_0 sD).trans ?_
    rw [show max (o + 1) 0 = (k : Int) by omega]
    exact a1
  · rw [Ch_in ho, hk]
    exact a3
end CCH

