section CNE
variable {h : vH} {D y B : Int} {L : List Int} {s G : Int → Int} {n : Nat}
/-- neutral ones between their neighbours -/
def nuF (G : Int → Int) (b : Int) : Int → List Int → Int → Int
  | _, [], _ => 0
  | x, c :: r, j => if G c = -1 then (if j = c then (if x = nxW G b r then x else b) else nuF G b x r j) else (if j = c then G c else nuF G b (G c) r j)
theorem nuF_L : ∀ (L : List Int) (x j : Int), j ∈ L → nuL s G B x L j = lvO s B j (nuF G (B % 2) x L j)
  | [], _, _, h => by cases h
  | c :: r, x, j, h => by
    unfold nuL nuF
    by_cases g : G c = -1
    · rw [if_pos g, if_pos g]
      by_cases e : j = c
      · rw [if_pos e, if_pos e, e]
      · rw [if_neg e, if_neg e]
        exact nuF_L r x j ((List.mem_cons.mp h).resolve_left e)
    · rw [if_neg g, if_neg g]
      by_cases e : j = c
      · rw [if_pos e, if_pos e, e]
      · rw [if_neg e, if_neg e]
        exact nuF_L r (G c) j ((List.mem_cons.mp h).resolve_left e)
theorem nuF_in {b : Int} (hb : b = 0 ∨ b = 1) : ∀ (L : List Int) (x j : Int), (x = 0 ∨ x = 1) → (∀ c ∈ L, isW (G c)) → nuF G b x L j = 0 ∨ nuF G b x L j = 1
  | [], _, _, _, _ => Or.inl rfl
  | c :: r, x, j, hx, h => by
    have h2 : ∀ c ∈ r, isW (G c) := fun c hc => h c (List.mem_cons_of_mem _ hc)
    unfold nuF
    by_cases g : G c = -1
    · rw [if_pos g]
      split
      · split <;> assumption
      · exact nuF_in hb r x j hx h2
    · have w := (h c List.mem_cons_self).resolve_left g
      rw [if_neg g]
      split
      · exact w
      · exact nuF_in hb r (G c) j w h2
theorem C_endOfNeutral (sD : shDirections h D) (hc : h 207 D 0 = (L.length : Int)) (h131 : L.length ≤ 131) {i0 : Nat} (hw : ∀ i : Nat, i0 ≤ i → i < L.length → h 2 (D + 5) i = G (gx L i)) : ∀ (f i : Nat), i + f = L.length → i0 ≤ i → (∀ t : Nat, i0 ≤ t → t < i → G (gx L t) = -1) → ∃ e : Nat, i ≤ e ∧ e ≤ L.length ∧ (∀ t : Nat, i0 ≤ t → t < e → G (gx L t) = -1) ∧ (e = L.length ∨ (e < L.length ∧ ¬ G (gx L e) = -1)) ∧ vrun mX0_endOfNeutral 6 [(1, D), (0, i0), (0, i)] [] h = some (.inl (some (0, (e : Int))), h) := by
  intro f
  induction f with
  | zero =>
    intro i hi h0 hn
    refine ⟨i, Nat.le_refl _, by omega, hn, Or.inl (by omega), ?_⟩
    rw [rX0_endOfNeutral_6 sD (by omega), if_pos (by omega)]
  | succ f ih =>
    intro i hi h0 hn
    have il : i < L.length := by omega
    by_cases c : G (gx L i) = -1
    · obtain ⟨e, e1, e2, e3, e4, e5⟩ := ih (i + 1) (by omega) (by omega) (fun t a b => by
        by_cases z : t = i
        · rw [z]; exact c
        · exact hn t a (by omega))
      refine ⟨e, by omega, e2, e3, e4, ?_⟩
      rw [rX0_endOfNeutral_6 sD (by omega), if_neg (by omega), if_neg (by omega), hw i h0 il, if_pos c]
      exact e5
    · refine ⟨i, Nat.le_refl _, by omega, hn, Or.inr ⟨il, c⟩, ?_⟩
      rw [rX0_endOfNeutral_6 sD (by omega), if_neg (by omega), if_neg (by omega), hw i h0 il, if_neg c]
theorem C_fillWays (sD : shDirections h D) {i e : Nat} {v : Int} (ie : i ≤ e) (he : e ≤ 131) : ∃ h2, vcl mX0_fillWays [(1, D), (0, i), (0, e), (0, v)] h = some (.inl none, h2) ∧ yF D 5 5 1 0 h h2 ∧ ∀ j : Int, h2 2 (D + 5) j = if (i : Int) ≤ j ∧ j < e then v else h 2 (D + 5) j := by
  have loop : ∀ (f t : Nat) (h1 : vH), t + f = e → i ≤ t → yF D 5 5 1 0 h h1 → (∀ j : Int, h1 2 (D + 5) j = if (i : Int) ≤ j ∧ j < t then v else h 2 (D + 5) j) → ∃ h2, vrun mX0_fillWays 7 [(1, D), (0, i), (0, e), (0, v), (0, t)] [] h1 = some (.inl none, h2) ∧ yF D 5 5 1 0 h h2 ∧ ∀ j : Int, h2 2 (D + 5) j = if (i : Int) ≤ j ∧ j < e then v else h 2 (D + 5) j := by
    intro f
    induction f with
    | zero =>
      intro t h1 ht hi hF hj
      have q : t = e := by omega
      subst q
      refine ⟨h1, ?_, hF, hj⟩
      rw [rX0_fillWays_7 (shDirections_sx (yF_0 hF) sD) (by omega), if_pos (by omega)]
    | succ f ih =>
      intro t h1 ht hi hF hj
      obtain ⟨h2, a1, a2⟩ := ih (t + 1) (vup h1 2 (D + 5) t v) (by omega) (by omega) (yF_up hF (Or.inl ⟨rfl, by omega, by omega⟩)) (fun j => by
        rw [vup_2, hj]
        by_cases z : j = t
        · rw [if_pos z, if_pos (by omega)]
        · rw [if_neg z]
          by_cases w : (i : Int) ≤ j ∧ j < t
          · rw [if_pos w, if_pos (by omega)]
          · rw [if_neg w, if_neg (by omega)])
      refine ⟨h2, ?_, a2⟩
      rw [rX0_fillWays_7 (shDirections_sx (yF_0 hF) sD) (by omega), if_neg (by omega), if_neg (by omega)]
      exact a1
  obtain ⟨h2, a1, a2⟩ := loop (e - i) i h (by omega) (Nat.le_refl _) yF_rf (fun j => (if_neg (by omega)).symm)
  refine ⟨h2, ?_, a2⟩
  refine rX0_fillWays_0.trans ?_
  rw [show max (i : Int) 0 = i by omega]
  exact a1
theorem nxW_run {b : Int} {e : Nat} : ∀ (d t : Nat), t + d = e → e ≤ L.length → (∀ u : Nat, t ≤ u → u < e → G (gx L u) = -1) → nxW G b (L.drop t) = nxW G b (L.drop e)
  | 0, t, h, _, _ => by rw [show t = e by omega]
  | d + 1, t, h, he, hu => by
    rw [gx_drop (show t < L.length by omega)]
    have q : nxW G b (gx L t :: L.drop (t + 1)) = if G (gx L t) = -1 then nxW G b (L.drop (t + 1)) else G (gx L t) := rfl
    rw [q, if_pos (hu t (Nat.le_refl _) (by omega))]
    exact nxW_run d (t + 1) (by omega) he (fun u a c => hu u (by omega) c)
theorem nuF_run (hp : L.Pairwise (· < ·)) {b x : Int} {t j : Nat} (tl : t < L.length) (c : G (gx L t) = -1) (tj : t < j) (jl : j < L.length) : nuF G b x (L.drop t) (gx L j) = nuF G b x (L.drop (t + 1)) (gx L j) := by
  have lt := gx_lt hp tj jl
  have q : nuF G b x (gx L t :: L.drop (t + 1)) (gx L j) = if G (gx L t) = -1 then (if gx L j = gx L t then (if x = nxW G b (L.drop (t + 1)) then x else b) else nuF G b x (L.drop (t + 1)) (gx L j)) else (if gx L j = gx L t then G (gx L t) else nuF G b (G (gx L t)) (L.drop (t + 1)) (gx L j)) := rfl
  rw [gx_drop tl, q, if_pos c, if_neg (by omega)]
theorem C_turnNeutral (sD : shDirections h D) (hp : L.Pairwise (· < ·)) (hc : h 207 D 0 = (L.length : Int)) (h131 : L.length ≤ 131) (hB : h 208 D 0 = B) (hB0 : 0 ≤ B) (hw : ∀ i : Nat, i < L.length → h 2 (D + 5) i = G (gx L i)) : ∃ h2, vcl mX0_turnNeutral [(1, D)] h = some (.inl none, h2) ∧ yF D 5 5 1 0 h h2 ∧ ∀ i : Nat, i < L.length → h2 2 (D + 5) i = nuF G (B % 2) (B % 2) L (gx L i) := by
  have loop : ∀ (f i : Nat) (x : Int) (h1 : vH) (v4 v5 : vv), L.length ≤ i + f → i ≤ L.length → yF D 5 5 1 0 h h1 → (∀ j : Nat, j < L.length → h1 2 (D + 5) j = if j < i then nuF G (B % 2) (B % 2) L (gx L j) else G (gx L j)) → (∀ j : Nat, i ≤ j → j < L.length → nuF G (B % 2) (B % 2) L (gx L j) = nuF G (B % 2) x (L.drop i) (gx L j)) → ∃ h2, vrun mX0_turnNeutral 11 [(1, D), (0, B % 2), (0, x), (0, i), v4, v5] [] h1 = some (.inl none, h2) ∧ yF D 5 5 1 0 h h2 ∧ ∀ i : Nat, i < L.length → h2 2 (D + 5) i = nuF G (B % 2) (B % 2) L (gx L i) := by
    intro f
    induction f with
    | zero =>
      intro i x h1 v4 v5 hf hi hF hst hsf
      have e0 : h1 207 D 0 = (L.length : Int) := (hF _ _ _ (by omega)).trans hc
      refine ⟨h1, ?_, hF, fun j hj => (hst j hj).trans (if_pos (by omega))⟩
      rw [rX0_turnNeutral_11 (shDirections_sx (yF_0 hF) sD), if_neg (by omega), if_pos (by omega)]
    | succ f ih =>
      intro i x h1 v4 v5 hf hi hF hst hsf
      have e0 : h1 207 D 0 = (L.length : Int) := (hF _ _ _ (by omega)).trans hc
      have sD1 := shDirections_sx (yF_0 hF) sD
      by_cases fin : i = L.length
      · refine ⟨h1, ?_, hF, fun j hj => (hst j hj).trans (if_pos (by omega))⟩
        rw [rX0_turnNeutral_11 sD1, if_neg (by omega), if_pos (by omega)]
      · have il : i < L.length := by omega
        have e1 : h1 2 (D + 5) i = G (gx L i) := (hst i il).trans (if_neg (by omega))
        have fd : ∀ (t : Nat) (x : Int) (j : Int), t < L.length → nuF G (B % 2) x (L.drop t) j = if G (gx L t) = -1 then (if j = gx L t then (if x = nxW G (B % 2) (L.drop (t + 1)) then x else B % 2) else nuF G (B % 2) x (L.drop (t + 1)) j) else (if j = gx L t then G (gx L t) else nuF G (B % 2) (G (gx L t)) (L.drop (t + 1)) j) := fun t x j ht => by rw [gx_drop ht]; rfl
        by_cases c : G (gx L i) = -1
        · obtain ⟨e, q1, q2, q3, q4, q5⟩ := C_endOfNeutral (L := L) (G := G) (i0 := i) (h := h1) sD1 e0 h131 (fun j a b => (hst j b).trans (if_neg (by omega))) (L.length - i) i (by omega) (Nat.le_refl _) (fun t a b => by omega)
          have ie : i < e := by
            refine Nat.lt_of_le_of_ne q1 fun z => ?_
            rcases q4 with w | w
            · omega
            · rw [← z] at w; exact w.2 c
          let bh : Int := nxW G (B % 2) (L.drop e)
          have be : (if (e : Int) < 0 then B % 2 else (if h1 207 D 0 ≤ e then B % 2 else (if 131 ≤ (e : Int) then B % 2 else h1 2 (D + 5) e))) = bh := by
            rw [if_neg (by omega), e0]
            show _ = nxW G (B % 2) (L.drop e)
            rcases q4 with w | w
            · rw [if_pos (by omega), List.drop_of_length_le (by omega)]
              rfl
            · rw [if_neg (by omega), if_neg (by omega), hst e w.1, if_neg (by omega), gx_drop w.1]
              unfold nxW
              rw [if_neg w.2]
          obtain ⟨h2, f1, f2, f3⟩ := C_fillWays (i := i) (e := e) (v := if x = bh then x else B % 2) sD1 (by omega) (by omega)
          have same : ∀ (d t : Nat) (j : Nat), i + d = t → t ≤ e → t ≤ j → j < L.length → nuF G (B % 2) x (L.drop i) (gx L j) = nuF G (B % 2) x (L.drop t) (gx L j) := by
            intro d
            induction d with
            | zero => intro t j h0 _ _ _; rw [show t = i by omega]
            | succ d ihd =>
              intro t j h0 h1 h2 h3
              rw [ihd (t - 1) j (by omega) (by omega) (by omega) h3, nuF_run hp (by omega) (q3 (t - 1) (by omega) (by omega)) (by omega) h3, show t - 1 + 1 = t by omega]
          obtain ⟨h3, a1, a2⟩ := ih e x h2 (0, e) (0, bh) (by omega) q2 (yF_tr hF f2) (fun j hj => by
            rw [f3]
            by_cases z : i ≤ j ∧ j < e
            · rw [if_pos (by omega), if_pos z.2, hsf j z.1 hj, same (j - i) j j (by omega) (by omega) (Nat.le_refl _) hj, fd j x _ hj, if_pos (q3 j z.1 z.2), if_pos rfl, nxW_run (e - (j + 1)) (j + 1) (by omega) q2 (fun u a b => q3 u (by omega) b)]
            · rw [if_neg (by omega), hst j hj]
              by_cases w : j < i
              · rw [if_pos w, if_pos (by omega)]
              · rw [if_neg w, if_neg (by omega)]) (fun j a b => by
            rw [hsf j (by omega) b, same (e - i) e j (by omega) (Nat.le_refl _) a b])
          refine ⟨h3, ?_, a2⟩
          rw [rX0_turnNeutral_11 sD1, if_neg (by omega), if_neg (by omega), if_neg (by omega), e1, if_pos c]
          refine (vret_v (rX0_endOfNeutral_0.trans (by rw [show max (i : Int) 0 = i by omega]; exact q5))).trans ?_
          refine (rX0_turnNeutral_58 sD1).trans ?_
          rw [be]
          refine (vret_n f1).trans ?_
          refine (rX0_turnNeutral_113 (by omega) (by omega)).trans ?_
          rw [show max (e : Int) ((i : Int) + 1) = e by omega]
          exact a1
        · obtain ⟨h2, a1, a2⟩ := ih (i + 1) (G (gx L i)) h1 v4 v5 (by omega) (by omega) hF (fun j hj => by
            rw [hst j hj]
            by_cases z : j = i
            · rw [if_neg (by omega), if_pos (by omega), hsf j (by omega) hj, fd i x _ il, z, if_neg c, if_pos rfl]
            · by_cases w : j < i
              · rw [if_pos w, if_pos (by omega)]
              · rw [if_neg w, if_neg (by omega)]) (fun j a b => by
            have lt := gx_lt hp (show i < j by omega) b
            rw [hsf j (by omega) b, fd i x _ il, if_neg c, if_neg (by omega)])
          refine ⟨h2, ?_, a2⟩
          rw [rX0_turnNeutral_11 sD1, if_neg (by omega), if_neg (by omega), if_neg (by omega), e1, if_neg c]
          exact a1
  obtain ⟨h2, a1, a2⟩ := loop L.length 0 (B % 2) h (9, 0) (9, 0) (by omega) (by omega) yF_rf (fun j hj => (hw j hj).trans (if_neg (by omega)).symm) (fun j _ _ => by rw [List.drop_zero])
  refine ⟨h2, ?_, a2⟩
  refine (rX0_turnNeutral_0 sD (by omega)).trans ?_
  rw [hB]
  exact a1
end CNE

