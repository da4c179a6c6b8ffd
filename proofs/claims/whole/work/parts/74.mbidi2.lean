section MO
variable {h : vH} {n : Nat} {s I G : Int → Int} {o b : Int}
/-- a way -/
def isW (w : Int) : Prop := w = -1 ∨ w = 0 ∨ w = 1
theorem M_ofPair (sM : shModel h) (hn : h 1540 282 0 = (n : Int)) (h131 : n ≤ 131) (hI : ∀ k : Int, 0 ≤ k → k < n → h 2 322 k = I k) (hG : ∀ j ∈ Ch I o n 0, h 2 321 j = G j) (hb : b = 0 ∨ b = 1) {c e : Int} (hc : 0 ≤ c ∧ c < e ∧ e < n) (he : h 2 323 c = e) :
    vcl mX13_ofPair [(1, 282), (0, o), (0, c), (0, b)] h = some (.inl (some (0, ofP I G o (Ch I o n 0) c e b)), h) := by
  have fin : ∀ (f : Nat) (k x y z : Int), k + f = n → 0 ≤ k → k ≤ c → vrun mX13_ofPair 104 [(1, 282), (0, o), (0, c), (0, b), (0, y), (0, z), (0, x), (0, k)] [] h = some (.inl (some (0, if y = 0 then (if z = 0 then (-1) else ahW G c x (Ch I o f k)) else b)), h) := by
    intro f
    induction f with
    | zero => intro k x y z hk h0 hkc; omega
    | succ f ih =>
      intro k x y z hk h0 hkc
      by_cases kc : c ≤ k
      · have : k = c := by omega
        rw [rX13_ofPair_104 sM, if_pos kc]
        · have : ahW G c x (Ch I o (f + 1) k) = x := by
            cases e1 : Ch I o (f + 1) k with
            | nil => rfl
            | cons a r =>
              have := (Ch_mem (f + 1) k a).mp (by rw [e1]; exact List.mem_cons_self)
              show (if c ≤ a then x else _) = x
              rw [if_pos (by omega)]
          rw [this]
        all_goals (first | (intros; omega) | assumption)
      · have e2 := hI k h0 (by omega)
        rw [rX13_ofPair_104 sM, if_neg kc, ih (k + 1) _ y z (by omega) (by omega) (by omega)]
        · by_cases d : I k = o
          · have e3 := hG k ((Ch_mem n 0 k).mpr ⟨h0, by omega, d⟩)
            rw [if_pos (e2.trans d), e3, Ch_yes d]
            show _ = some (Sum.inl (some (0, if y = 0 then (if z = 0 then (-1) else (if c ≤ k then x else ahW G c (if G k = -1 then x else G k) (Ch I o f (k + 1)))) else b)), h)
            rw [if_neg kc]
          · have d2 : ¬ h 2 322 k = o := by rw [e2]; exact d
            rw [if_neg d2, Ch_no d]
        all_goals (first | (intros; omega) | assumption)
  have loop : ∀ i, i ≤ e → ∀ y z : Int, (y = 0 ∨ y = 1) → (z = 0 ∨ z = 1) → c + 1 ≤ i → vrun mX13_ofPair 11 [(1, 282), (0, o), (0, c), (0, b), (0, y), (0, z), (0, i), (9, 0)] [] h = some (.inl (some (0, @ite _ (¬ y = 0 ∨ anyI (fun x => I x = o ∧ G x = b) i e) (Classical.propDecidable _) b (@ite _ (¬ z = 0 ∨ anyI (fun x => I x = o ∧ G x = 1 - b) i e) (Classical.propDecidable _) (ahW G c b (Ch I o n 0)) (-1)))), h) := by
    refine up_ind ?_ ?_
    · intro y z hy hz hi
      rw [rX13_ofPair_11 sM, he, if_pos (Int.le_refl _), fin n 0 b y z (by omega) (by omega) hc.1]
      · congr 5
        by_cases q : y = 0
        · have q9 : ¬ (¬ y = 0 ∨ anyI (fun x => I x = o ∧ G x = b) e e) := fun w => Or.elim w (fun v => v q) (any_nil (Int.le_refl _))
          rw [if_pos q, if_neg q9]
          by_cases q2 : z = 0
          · have q8 : ¬ (¬ z = 0 ∨ anyI (fun x => I x = o ∧ G x = 1 - b) e e) := fun w => Or.elim w (fun v => v q2) (any_nil (Int.le_refl _))
            rw [if_pos q2, if_neg q8]
          · have q8 : ¬ z = 0 ∨ anyI (fun x => I x = o ∧ G x = 1 - b) e e := Or.inl q2
            rw [if_neg q2, if_pos q8]
        · rw [if_neg q, if_pos (Or.inl q)]
      all_goals (first | (intros; omega) | assumption)
    · intro i hi ih y z hy hz h1
      have e2 := hI i (by omega) (by omega)
      have cv : ∀ v : Int, (h 2 322 i = o ∧ h 2 321 i = v) ↔ (I i = o ∧ G i = v) := by
        intro v
        rw [e2]
        constructor
        · rintro ⟨q1, q2⟩
          exact ⟨q1, by rw [← hG i ((Ch_mem n 0 i).mpr ⟨by omega, by omega, q1⟩)]; exact q2⟩
        · rintro ⟨q1, q2⟩
          exact ⟨q1, by rw [hG i ((Ch_mem n 0 i).mpr ⟨by omega, by omega, q1⟩)]; exact q2⟩
      rw [rX13_ofPair_11 sM, he, if_neg (by omega), ih _ _ b01 b01 (by omega)]
      · congr 5
        have k1 : (¬ (if ¬ (y = 0) ∨ h 2 322 i = o ∧ h 2 321 i = b then (1 : Int) else 0) = 0 ∨ anyI (fun x => I x = o ∧ G x = b) (i + 1) e) ↔ (¬ y = 0 ∨ anyI (fun x => I x = o ∧ G x = b) i e) := by
          rw [any_step hi, b2i_if, b2i_0, Classical.not_not, cv, or_assoc]
        have k2 : (¬ (if ¬ (z = 0) ∨ h 2 322 i = o ∧ h 2 321 i = 1 - b then (1 : Int) else 0) = 0 ∨ anyI (fun x => I x = o ∧ G x = 1 - b) (i + 1) e) ↔ (¬ z = 0 ∨ anyI (fun x => I x = o ∧ G x = 1 - b) i e) := by
          rw [any_step hi, b2i_if, b2i_0, Classical.not_not, cv, or_assoc]
        by_cases q : ¬ y = 0 ∨ anyI (fun x => I x = o ∧ G x = b) i e
        · rw [if_pos q, if_pos (k1.mpr q)]
        · rw [if_neg q, if_neg (fun w => q (k1.mp w))]
          by_cases q2 : ¬ z = 0 ∨ anyI (fun x => I x = o ∧ G x = 1 - b) i e
          · rw [if_pos q2, if_pos (k2.mpr q2)]
          · rw [if_neg q2, if_neg (fun w => q2 (k2.mp w))]
      all_goals (first | (intros; omega) | assumption)
  refine (rX13_ofPair_0 (by omega) (by omega)).trans ?_
  rw [loop (c + 1) (by omega) 0 0 (Or.inl rfl) (Or.inl rfl) (Int.le_refl _)]
  unfold ofP
  congr 5
  by_cases q : anyI (fun x => I x = o ∧ G x = b) (c + 1) e
  · rw [if_pos q, if_pos (Or.inr q)]
  · rw [if_neg q, if_neg (fun w => w.elim (fun v => v rfl) q)]
    by_cases q2 : anyI (fun x => I x = o ∧ G x = 1 - b) (c + 1) e
    · rw [if_pos q2, if_pos (Or.inr q2)]
    · rw [if_neg q2, if_neg (fun w => w.elim (fun v => v rfl) q2)]
theorem ahW_in {e : Int} : ∀ (L : List Int) (x : Int), isW x → (∀ j ∈ L, isW (G j)) → isW (ahW G e x L)
  | [], x, hx, _ => hx
  | c :: r, x, hx, hL => by
    unfold ahW
    split
    · exact hx
    · refine ahW_in r _ ?_ (fun j hj => hL j (List.mem_cons_of_mem _ hj))
      split
      · exact hx
      · exact hL c List.mem_cons_self
theorem ofP_in {L : List Int} {c e : Int} (hb : b = 0 ∨ b = 1) (hL : ∀ j ∈ L, isW (G j)) : isW (ofP I G o L c e b) := by
  unfold ofP
  split
  · exact Or.inr hb
  · split
    · exact ahW_in L b (Or.inr hb) hL
    · exact Or.inl rfl
theorem prB_in : ∀ (f : Nat) (k : Int) (q : List Int) (m : Int → Int), (∀ j ∈ q, j < k) → (∀ j, m j = -1 ∨ (j < m j ∧ m j < k ∧ I (m j) = o ∧ 0 ≤ m j)) → 0 ≤ k → ∀ j, prB s (Ch I o f k) q m j = -1 ∨ (j < prB s (Ch I o f k) q m j ∧ prB s (Ch I o f k) q m j < k + f ∧ I (prB s (Ch I o f k) q m j) = o ∧ 0 ≤ prB s (Ch I o f k) q m j)
  | 0, k, q, m, hq, hm, h0, j => by
    have := hm j
    show m j = -1 ∨ (j < m j ∧ m j < k + 0 ∧ I (m j) = o ∧ 0 ≤ m j)
    rcases this with z | z
    · exact Or.inl z
    · exact Or.inr ⟨z.1, by omega, z.2.2⟩
  | f + 1, k, q, m, hq, hm, h0, j => by
    have wk : ∀ j, m j = -1 ∨ (j < m j ∧ m j < k + 1 ∧ I (m j) = o ∧ 0 ≤ m j) := fun j => by
      rcases hm j with z | z
      · exact Or.inl z
      · exact Or.inr ⟨z.1, by omega, z.2.2⟩
    rw [show k + ((f + 1 : Nat) : Int) = k + 1 + f by omega]
    by_cases c : I k = o
    · rw [Ch_yes c]
      by_cases op : clo (s k) = -1
      · by_cases cl : s k = 41 ∨ s k = 93
        · have hd : prB s (k :: Ch I o f (k + 1)) q m = match cutT s (s k) q with
                | none => prB s (Ch I o f (k + 1)) q m
                | some (a, t) => prB s (Ch I o f (k + 1)) t (ipd m a k) := by
              show (if clo (s k) = -1 then (if s k = 41 ∨ s k = 93 then _ else _) else _) = _
              rw [if_pos op, if_pos cl]
              rfl
          rw [hd]
          cases ct : cutT s (s k) q with
          | none => exact prB_in f (k + 1) q m (fun j hj => by have := hq j hj; omega) wk (by omega) j
          | some at_ =>
            obtain ⟨a, t⟩ := at_
            obtain ⟨c1, c2, c3, c4⟩ := cutT_in q a t ct
            refine prB_in f (k + 1) t (ipd m a k) (fun j hj => by have := hq j (c2 j hj); omega) (fun j => ?_) (by omega) j
            unfold ipd
            by_cases z : j = a
            · rw [if_pos z]; exact Or.inr ⟨by have := hq a c1; omega, by omega, c, h0⟩
            · rw [if_neg z]; exact wk j
        · have hd : prB s (k :: Ch I o f (k + 1)) q m = prB s (Ch I o f (k + 1)) q m := by
            show (if clo (s k) = -1 then (if s k = 41 ∨ s k = 93 then _ else _) else _) = _
            rw [if_pos op, if_neg cl]
          rw [hd]
          exact prB_in f (k + 1) q m (fun j hj => by have := hq j hj; omega) wk (by omega) j
      · have hd : prB s (k :: Ch I o f (k + 1)) q m = prB s (Ch I o f (k + 1)) (k :: q) m := by
          show (if clo (s k) = -1 then _ else _) = _
          rw [if_neg op]
        rw [hd]
        exact prB_in f (k + 1) (k :: q) m (fun j hj => by
          rcases List.mem_cons.mp hj with z | z
          · omega
          · have := hq j z; omega) wk (by omega) j
    · rw [Ch_no c]
      exact prB_in f (k + 1) q m (fun j hj => by have := hq j hj; omega) wk (by omega) j
theorem M_brackets {m : Int → Int} (sM : shModel h) (hn : h 1540 282 0 = (n : Int)) (h131 : n ≤ 131) (hs : ∀ k : Int, 0 ≤ k → k < n → h 2 311 k = s k) (hI : ∀ k : Int, 0 ≤ k → k < n → h 2 322 k = I k) (hb : b = 0 ∨ b = 1) (hm : ∀ j ∈ Ch I o n 0, ¬ clo (s j) = -1 → h 2 323 j = m j) (mi : ∀ j, m j = -1 ∨ (j < m j ∧ m j < n ∧ I (m j) = o ∧ 0 ≤ m j)) (hG : ∀ j ∈ Ch I o n 0, h 2 321 j = G j) (hW : ∀ j ∈ Ch I o n 0, isW (G j)) :
    ∃ h2, vcl mX13_brackets [(1, 282), (0, o), (0, b)] h = some (.inl none, h2) ∧ mF [321] [] h h2 ∧ (∀ j ∈ Ch I o n 0, h2 2 321 j = bkW s I m o b (Ch I o n 0) (Ch I o n 0) G j) ∧ ∀ j ∈ Ch I o n 0, isW (bkW s I m o b (Ch I o n 0) (Ch I o n 0) G j) := by
  have loop : ∀ (f : Nat) (k : Int) (G : Int → Int) (h1 : vH) (v4 : vv), k + f = n → 0 ≤ k → mF [321] [] h h1 → (∀ j ∈ Ch I o n 0, h1 2 321 j = G j) → (∀ j ∈ Ch I o n 0, isW (G j)) →
      ∃ h2, vrun mX13_brackets 2 [(1, 282), (0, o), (0, b), (0, k), v4] [] h1 = some (.inl none, h2) ∧ mF [321] [] h h2 ∧ (∀ j ∈ Ch I o n 0, h2 2 321 j = bkW s I m o b (Ch I o n 0) (Ch I o f k) G j) ∧ ∀ j ∈ Ch I o n 0, isW (bkW s I m o b (Ch I o n 0) (Ch I o f k) G j) := by
    intro f
    induction f with
    | zero =>
      intro k G h1 v4 hk h0 hF hG hW
      have e0 : h1 1540 282 0 = (n : Int) := (hF _ _ _ (by simp) (by simp)).trans hn
      refine ⟨h1, ?_, hF, hG, hW⟩
      rw [rX13_brackets_2 (shModel_sx (mF_sx hF (by decide)) sM), if_pos (by omega)]
      all_goals (first | (intros; omega) | assumption)
    | succ f ih =>
      intro k G h1 v4 hk h0 hF hG hW
      have sM1 := shModel_sx (mF_sx hF (by decide)) sM
      have e0 : h1 1540 282 0 = (n : Int) := (hF _ _ _ (by simp) (by simp)).trans hn
      have e1 : h1 2 311 k = s k := (hF _ _ _ (by simp) (by simp)).trans (hs k h0 (by omega))
      have e2 : h1 2 322 k = I k := (hF _ _ _ (by simp) (by simp)).trans (hI k h0 (by omega))
      by_cases c : I k = o
      · have kin : k ∈ Ch I o n 0 := (Ch_mem n 0 k).mpr ⟨h0, by omega, c⟩
        have hd : bkW s I m o b (Ch I o n 0) (Ch I o (f + 1) k) G = if clo (s k) = -1 ∨ m k = -1 then bkW s I m o b (Ch I o n 0) (Ch I o f (k + 1)) G else bkW s I m o b (Ch I o n 0) (Ch I o f (k + 1)) (ipd (ipd G k (ofP I G o (Ch I o n 0) k (m k) b)) (m k) (ofP I G o (Ch I o n 0) k (m k) b)) := by
          rw [Ch_yes c]; rfl
        by_cases q : clo (s k) = -1 ∨ m k = -1
        · obtain ⟨h2, a1, a2, a3, a4⟩ := ih (k + 1) G h1 v4 (by omega) (by omega) hF hG hW
          refine ⟨h2, ?_, a2, by rw [hd, if_pos q]; exact a3, by rw [hd, if_pos q]; exact a4⟩
          rw [rX13_brackets_2 sM1, if_neg (by omega), if_pos (e2.trans c), e1, M_clo]
          · by_cases q1 : clo (s k) = -1
            · rw [if_pos q1]; exact a1
            · have e3 : h1 2 323 k = m k := (hF _ _ _ (by simp) (by simp)).trans (hm k kin q1)
              rw [if_neg q1, e3, if_pos (q.resolve_left q1)]; exact a1
          all_goals (first | (intros; omega) | assumption)
        · have q1 : ¬ clo (s k) = -1 := fun z => q (Or.inl z)
          have q2 : ¬ m k = -1 := fun z => q (Or.inr z)
          have e3 : h1 2 323 k = m k := (hF _ _ _ (by simp) (by simp)).trans (hm k kin q1)
          have mk := (mi k).resolve_left q2
          have mkin : m k ∈ Ch I o n 0 := (Ch_mem n 0 (m k)).mpr ⟨mk.2.2.2, by omega, mk.2.2.1⟩
          have ask := M_ofPair (h := h1) (G := G) sM1 e0 h131 (fun j u v => (hF _ _ _ (by simp) (by simp)).trans (hI j u v)) hG hb (c := k) (e := m k) ⟨h0, mk.1, mk.2.1⟩ e3
          have wi := ofP_in (I := I) (o := o) (L := Ch I o n 0) (c := k) (e := m k) hb hW
          have hF2 : mF [321] [] h (vup (vup h1 2 321 k (ofP I G o (Ch I o n 0) k (m k) b)) 2 321 (m k) (ofP I G o (Ch I o n 0) k (m k) b)) := mF_up (mF_up hF (Or.inl ⟨rfl, by decide⟩)) (Or.inl ⟨rfl, by decide⟩)
          obtain ⟨h2, a1, a2, a3, a4⟩ := ih (k + 1) (ipd (ipd G k (ofP I G o (Ch I o n 0) k (m k) b)) (m k) (ofP I G o (Ch I o n 0) k (m k) b)) _ (0, ofP I G o (Ch I o n 0) k (m k) b) (by omega) (by omega) hF2 (fun j hj => by
            unfold ipd
            rw [vup_2, vup_2]
            by_cases z : j = m k
            · rw [if_pos z, if_pos z]
            · rw [if_neg z, if_neg z]
              by_cases z2 : j = k
              · rw [if_pos z2, if_pos z2]
              · rw [if_neg z2, if_neg z2]
                exact hG j hj) (fun j hj => by
            unfold ipd
            by_cases z : j = m k
            · rw [if_pos z]; exact wi
            · rw [if_neg z]
              by_cases z2 : j = k
              · rw [if_pos z2]; exact wi
              · rw [if_neg z2]
                exact hW j hj)
          refine ⟨h2, ?_, a2, by rw [hd, if_neg q]; exact a3, by rw [hd, if_neg q]; exact a4⟩
          rw [rX13_brackets_2 sM1, if_neg (by omega), if_pos (e2.trans c), e1, M_clo, if_neg q1, e3, if_neg q2]
          · refine (vret_v ask).trans ?_
            rw [show (47 : Nat) + 3 = 50 from rfl, rX13_brackets_50 sM1, e3]
            · exact a1
            all_goals (try rw [e3])
            all_goals (first | (intros; omega) | assumption)
          all_goals (first | (intros; omega) | assumption)
      · have n2 : ¬ h1 2 322 k = o := by rw [e2]; exact c
        obtain ⟨h2, a1, a2, a3, a4⟩ := ih (k + 1) G h1 v4 (by omega) (by omega) hF hG hW
        refine ⟨h2, ?_, a2, by rw [Ch_no c]; exact a3, by rw [Ch_no c]; exact a4⟩
        rw [rX13_brackets_2 sM1, if_neg (by omega), if_neg n2]
        · exact a1
        all_goals (first | (intros; omega) | assumption)
  obtain ⟨h2, a1, a2, a3, a4⟩ := loop n 0 G h (9, 0) (by omega) (by omega) mF_rf hG hW
  exact ⟨h2, rX13_brackets_0.trans a1, a2, a3, a4⟩
end MO
