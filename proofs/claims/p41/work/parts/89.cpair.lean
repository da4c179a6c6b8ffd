section CPW
variable {h : vH} {D B : Int} {L : List Int} {s I G : Int → Int} {o : Int} {n : Nat}
theorem ahW_step (hp : L.Pairwise (· < ·)) {i : Nat} (hi : i + 1 < L.length) : ∀ (d t : Nat) (x : Int), t + d = i → ahW G (gx L ((i + 1 : Nat) : Int)) x (L.drop t) = if G (gx L i) = -1 then ahW G (gx L i) x (L.drop t) else G (gx L i)
  | 0, t, x, h => by
    have e : t = i := by omega
    subst e
    have lt := gx_lt hp (show t < t + 1 by omega) hi
    rw [gx_drop (show t < L.length by omega), gx_drop hi]
    have a1 : ahW G (gx L ((t + 1 : Nat) : Int)) x (gx L t :: gx L ((t + 1 : Nat) : Int) :: L.drop (t + 1 + 1)) = if G (gx L t) = -1 then x else G (gx L t) := by
      unfold ahW
      rw [if_neg (by omega)]
      unfold ahW
      rw [if_pos (Int.le_refl _)]
    have a2 : ahW G (gx L t) x (gx L t :: gx L ((t + 1 : Nat) : Int) :: L.drop (t + 1 + 1)) = x := by
      unfold ahW
      rw [if_pos (Int.le_refl _)]
    rw [a1, a2]
  | d + 1, t, x, h => by
    have ih := ahW_step hp hi d (t + 1) (if G (gx L t) = -1 then x else G (gx L t)) (by omega)
    have lt := gx_lt hp (show t < i by omega) (show i < L.length by omega)
    have lt2 := gx_lt hp (show t < i + 1 by omega) hi
    rw [gx_drop (show t < L.length by omega)]
    have a1 : ∀ e, gx L t < e → ahW G e x (gx L t :: L.drop (t + 1)) = ahW G e (if G (gx L t) = -1 then x else G (gx L t)) (L.drop (t + 1)) := by
      intro e he
      have q : ahW G e x (gx L t :: L.drop (t + 1)) = if e ≤ gx L t then x else ahW G e (if G (gx L t) = -1 then x else G (gx L t)) (L.drop (t + 1)) := rfl
      rw [q, if_neg (by omega)]
    rw [a1 _ lt2, a1 _ lt]
    exact ih
theorem ahW_0 (h : 0 < L.length) {x : Int} : ahW G (gx L ((0 : Nat) : Int)) x L = x := by
  have e : L = gx L ((0 : Nat) : Int) :: L.drop 1 := gx_drop h
  have q : ∀ e r, ahW G e x (e :: r) = x := fun e r => by unfold ahW; rw [if_pos (Int.le_refl _)]
  generalize hg : gx L ((0 : Nat) : Int) = c at e
  rw [e]
  exact q c _
theorem any_gx (hp : L.Pairwise (· < ·)) (hI : ∀ x : Int, 0 ≤ x → x < n → (I x = o ↔ x ∈ L)) (h0 : ∀ c ∈ L, 0 ≤ c ∧ c < n) {i j : Nat} (a : i < L.length) (b : j < L.length) {v : Int} : anyI (fun x => I x = o ∧ G x = v) (gx L i + 1) (gx L j) ↔ ∃ t : Nat, i < t ∧ t < j ∧ G (gx L t) = v := by
  have g1 := h0 _ (gx_mem.mpr ⟨i, a, rfl⟩)
  have g2 := h0 _ (gx_mem.mpr ⟨j, b, rfl⟩)
  constructor
  · rintro ⟨x, x1, x2, x3, x4⟩
    obtain ⟨t, t1, t2⟩ := gx_mem.mp ((hI x (by omega) (by omega)).mp x3)
    subst t2
    refine ⟨t, ?_, ?_, x4⟩
    · refine Nat.lt_of_not_le fun z => ?_
      rcases Nat.lt_or_eq_of_le z with w | w
      · have := gx_lt hp w a; omega
      · subst w; omega
    · refine Nat.lt_of_not_le fun z => ?_
      rcases Nat.lt_or_eq_of_le z with w | w
      · have := gx_lt hp w t1; omega
      · subst w; omega
  · rintro ⟨t, t1, t2, t3⟩
    have l1 := gx_lt hp t1 (by omega)
    have l2 := gx_lt hp t2 b
    have g3 := h0 _ (gx_mem.mpr ⟨t, by omega, rfl⟩)
    exact ⟨gx L t, by omega, by omega, (hI _ g3.1 g3.2).mpr (gx_mem.mpr ⟨t, by omega, rfl⟩), t3⟩
theorem C_wayOfPair (sD : shDirections h D) (hp : L.Pairwise (· < ·)) (h131 : L.length ≤ 131) (hI : ∀ x : Int, 0 ≤ x → x < n → (I x = o ↔ x ∈ L)) (h0 : ∀ c ∈ L, 0 ≤ c ∧ c < n) (hB : h 208 D 0 = B) (hB0 : 0 ≤ B) (hw : ∀ i : Nat, i < L.length → h 2 (D + 5) i = G (gx L i)) (hW : ∀ c ∈ L, isW (G c)) {i j : Nat} (a : i < j) (b : j < L.length) : vcl mX0_wayOfPair [(1, D), (0, i), (0, j)] h = some (.inl (some (0, ofP I G o L (gx L i) (gx L j) (B % 2))), h) := by
  have bb : B % 2 = 0 ∨ B % 2 = 1 := by omega
  have back : ∀ (x4 x5 : Int) (p : Nat), p < L.length → vrun mX0_wayOfPair 122 [(1, D), (0, i), (0, j), (0, B % 2), (0, x4), (0, x5), (0, (p : Int) - 1)] [] h = some (.inl (some (0, ahW G (gx L p) (B % 2) L)), h) := by
    intro x4 x5 p
    induction p with
    | zero =>
      intro hp0
      rw [rX0_wayOfPair_122 sD (by omega) (by omega) (by omega) (by omega) (by omega), if_pos (by omega), if_pos (by omega), ahW_0 hp0]
    | succ p ih =>
      intro hp0
      have e := hw p (by omega)
      have st := ahW_step (G := G) hp hp0 p 0 (B % 2) (by omega)
      rw [List.drop_zero] at st
      rw [show (((p + 1 : Nat) : Int) - 1) = p by omega, rX0_wayOfPair_122 sD (by omega) (by omega) (by omega) (by omega) (by omega), if_neg (by omega), e, st]
      by_cases c : G (gx L p) = -1
      · rw [if_pos c, if_pos c]
        exact ih (by omega)
      · rw [if_neg c, if_neg c, if_neg (by omega)]
        have w := (hW (gx L p) (gx_mem.mpr ⟨p, by omega, rfl⟩)).resolve_left c
        congr 5
        split <;> omega
  have any1 := fun v => any_gx (G := G) (v := v) hp hI h0 (show i < L.length by omega) b
  have loop : ∀ (f t : Nat) (x4 x5 : Int), t + f = j → i < t → (x4 = 0 ∨ x4 = 1) → (x5 = 0 ∨ x5 = 1) → (¬ x4 = 0 ↔ ∃ u : Nat, i < u ∧ u < t ∧ G (gx L u) = B % 2) → (¬ x5 = 0 ↔ ∃ u : Nat, i < u ∧ u < t ∧ G (gx L u) = 1 - B % 2) → vrun mX0_wayOfPair 22 [(1, D), (0, i), (0, j), (0, B % 2), (0, x4), (0, x5), (0, t)] [] h = some (.inl (some (0, ofP I G o L (gx L i) (gx L j) (B % 2))), h) := by
    intro f
    induction f with
    | zero =>
      intro t x4 x5 ht hi h4 h5 e4 e5
      have e : t = j := by omega
      subst e
      rw [rX0_wayOfPair_22 (by omega) (by omega) sD (by omega) (by omega) (by omega) (by omega) (by omega), if_pos (by omega)]
      unfold ofP
      by_cases c4 : x4 = 0
      · have n4 := fun z => (e4.mpr ((any1 _).mp z)) c4
        rw [if_pos c4, if_neg n4]
        by_cases c5 : x5 = 0
        · have n5 := fun z => (e5.mpr ((any1 _).mp z)) c5
          rw [if_pos c5, if_pos c4, if_neg n5]
        · rw [if_neg c5, if_pos ((any1 _).mpr (e5.mp c5)), show min (i : Int) 131 - 1 = (i : Int) - 1 by omega]
          exact back x4 x5 i (by omega)
      · rw [if_neg c4, if_neg c4, if_pos ((any1 _).mpr (e4.mp c4))]
    | succ f ih =>
      intro t x4 x5 ht hi h4 h5 e4 e5
      have e := hw t (by omega)
      rw [rX0_wayOfPair_22 (by omega) (by omega) sD (by omega) (by omega) (by omega) (by omega) (by omega), if_neg (by omega), if_neg (by omega), e]
      refine ih (t + 1) _ _ (by omega) (by omega) b01 b01 ?_ ?_
      · rw [b2i_if, b2i_0, Classical.not_not]
        constructor
        · rintro (z | z)
          · obtain ⟨u, u1, u2, u3⟩ := e4.mp z
            exact ⟨u, u1, by omega, u3⟩
          · exact ⟨t, hi, by omega, z⟩
        · rintro ⟨u, u1, u2, u3⟩
          by_cases z : u = t
          · subst z; exact Or.inr u3
          · exact Or.inl (e4.mpr ⟨u, u1, by omega, u3⟩)
      · rw [b2i_if, b2i_0, Classical.not_not]
        constructor
        · rintro (z | z)
          · obtain ⟨u, u1, u2, u3⟩ := e5.mp z
            exact ⟨u, u1, by omega, u3⟩
          · exact ⟨t, hi, by omega, z⟩
        · rintro ⟨u, u1, u2, u3⟩
          by_cases z : u = t
          · subst z; exact Or.inr u3
          · exact Or.inl (e5.mpr ⟨u, u1, by omega, u3⟩)
  refine (rX0_wayOfPair_0 sD (by omega) (by omega) (by omega)).trans ?_
  rw [hB, show max ((i : Int) + 1) 0 = ((i + 1 : Nat) : Int) by omega]
  refine loop (j - (i + 1)) (i + 1) 0 0 (by omega) (by omega) (Or.inl rfl) (Or.inl rfl) ?_ ?_
  · exact ⟨fun z => absurd rfl z, fun ⟨u, u1, u2, _⟩ => by omega⟩
  · exact ⟨fun z => absurd rfl z, fun ⟨u, u1, u2, _⟩ => by omega⟩
theorem C_turnPairs {m : Int → Int} (sD : shDirections h D) (hp : L.Pairwise (· < ·)) (hc : h 207 D 0 = (L.length : Int)) (h131 : L.length ≤ 131) (hI : ∀ x : Int, 0 ≤ x → x < n → (I x = o ↔ x ∈ L)) (h0 : ∀ c ∈ L, 0 ≤ c ∧ c < n) (hB : h 208 D 0 = B) (hB0 : 0 ≤ B) (hw : ∀ i : Nat, i < L.length → h 2 (D + 5) i = G (gx L i)) (hW : ∀ c ∈ L, isW (G c)) (hm : cClo h D L m) (hm2 : ∀ c, ¬ m c = -1 → ¬ clo (s c) = -1) : ∃ h2, vcl mX0_turnPairs [(1, D)] h = some (.inl none, h2) ∧ yF D 5 5 1 0 h h2 ∧ (∀ i : Nat, i < L.length → h2 2 (D + 5) i = bkW s I m o (B % 2) L L G (gx L i)) ∧ ∀ c ∈ L, isW (bkW s I m o (B % 2) L L G c) := by
  have b01 : B % 2 = 0 ∨ B % 2 = 1 := by omega
  have loop : ∀ (f i : Nat) (G1 : Int → Int) (h1 : vH) (v2 : vv), i + f = L.length → yF D 5 5 1 0 h h1 → bkW s I m o (B % 2) L L G = bkW s I m o (B % 2) L (L.drop i) G1 → (∀ i : Nat, i < L.length → h1 2 (D + 5) i = G1 (gx L i)) → (∀ c ∈ L, isW (G1 c)) → ∃ h2, vrun mX0_turnPairs 2 [(1, D), (0, i), v2] [] h1 = some (.inl none, h2) ∧ yF D 5 5 1 0 h h2 ∧ (∀ i : Nat, i < L.length → h2 2 (D + 5) i = bkW s I m o (B % 2) L L G (gx L i)) ∧ ∀ c ∈ L, isW (bkW s I m o (B % 2) L L G c) := by
    intro f
    induction f with
    | zero =>
      intro i G1 h1 v2 hi hF he hw1 hW1
      have e0 : h1 207 D 0 = (L.length : Int) := (hF _ _ _ (by omega)).trans hc
      rw [List.drop_of_length_le (by omega)] at he
      have he : bkW s I m o (B % 2) L L G = G1 := he
      refine ⟨h1, ?_, hF, by rw [he]; exact hw1, by rw [he]; exact hW1⟩
      rw [rX0_turnPairs_2 (shDirections_sx (yF_0 hF) sD) (by omega), if_pos (by omega)]
    | succ f ih =>
      intro i G1 h1 v2 hi hF he hw1 hW1
      have il : i < L.length := by omega
      have sD1 := shDirections_sx (yF_0 hF) sD
      have e0 : h1 207 D 0 = (L.length : Int) := (hF _ _ _ (by omega)).trans hc
      have e6 : h1 2 (D + 6) i = h 2 (D + 6) i := hF _ _ _ (by omega)
      rw [gx_drop il] at he
      have hd : bkW s I m o (B % 2) L (gx L i :: L.drop (i + 1)) G1 = if clo (s (gx L i)) = -1 ∨ m (gx L i) = -1 then bkW s I m o (B % 2) L (L.drop (i + 1)) G1 else bkW s I m o (B % 2) L (L.drop (i + 1)) (ipd (ipd G1 (gx L i) (ofP I G1 o L (gx L i) (m (gx L i)) (B % 2))) (m (gx L i)) (ofP I G1 o L (gx L i) (m (gx L i)) (B % 2))) := rfl
      rw [hd] at he
      rw [rX0_turnPairs_2 sD1 (by omega), if_neg (by omega), if_neg (by omega), e6]
      rcases hm i il with ⟨m1, m2⟩ | ⟨t, t1, t2, t3, t4⟩
      · rw [if_pos (Or.inr m1)] at he
        rw [m2, if_pos (by decide)]
        exact ih (i + 1) G1 h1 (0, -1) (by omega) hF he hw1 hW1
      · have g0 := h0 _ (gx_mem.mpr ⟨t, t1, rfl⟩)
        have mn : ¬ m (gx L i) = -1 := by omega
        rw [if_neg (fun z => z.elim (hm2 _ mn) mn), t4] at he
        have wp := C_wayOfPair (G := G1) sD1 hp h131 hI h0 ((hF _ _ _ (by omega)).trans hB) hB0 hw1 hW1 t2 t1
        have vW : isW (ofP I G1 o L (gx L i) (gx L t) (B % 2)) := ofP_in b01 hW1
        generalize hv : ofP I G1 o L (gx L i) (gx L t) (B % 2) = v at he wp vW
        rw [t3, if_neg (by omega), if_neg (by omega)]
        have sh : h1 0 (D + 5) 0 = 1 ∧ h1 1 (D + 5) 0 = 131 := by
          obtain ⟨-, -, -, -, -, -, -, -, -, -, -, -, -, -, z1, z2, -⟩ := sD1
          exact ⟨z1, z2⟩
        obtain ⟨h2, a1, a2⟩ := ih (i + 1) (ipd (ipd G1 (gx L i) v) (gx L t) v) (vup (vup h1 2 (D + 5) i v) 2 (D + 5) t ((vup h1 2 (D + 5) i v) 2 (D + 5) i)) (0, t) (by omega) (yF_up (yF_up hF (Or.inl ⟨rfl, by omega, by omega⟩)) (Or.inl ⟨rfl, by omega, by omega⟩)) he (fun j hj => by
          rw [vup_2, vup_s, vup_2]
          unfold ipd
          by_cases z : j = t
          · rw [if_pos (by omega), z, if_pos rfl]
          · rw [if_neg (by omega), if_neg (fun w => z (gx_inj hp hj t1 w))]
            by_cases w : j = i
            · rw [if_pos (by omega), w, if_pos rfl]
            · rw [if_neg (by omega), if_neg (fun y => w (gx_inj hp hj il y))]
              exact hw1 j hj) (fun c hcL => by
          unfold ipd
          split
          · exact vW
          · split
            · exact vW
            · exact hW1 c hcL)
        refine ⟨h2, ?_, a2⟩
        refine (vret_v wp).trans ?_
        refine (rX0_turnPairs_46 sh.1 (by omega) (by omega) sD1 (by omega) (by omega) (by omega) (by omega)).trans ?_
        exact a1
  obtain ⟨h2, a1, a2⟩ := loop L.length 0 G h (9, 0) (by omega) yF_rf rfl hw hW
  exact ⟨h2, rX0_turnPairs_0.trans a1, a2⟩
end CPW

