/-! the class deals the heights -/
def kF (h h2 : vH) : Prop := ∀ (k : Nat) (r i : Int), ¬ (k = 2 ∧ (r = 132 ∨ r = 133) ∧ 0 ≤ i ∧ i < 4) → h2 k r i = h k r i
theorem kF_rf {h : vH} : kF h h := fun _ _ _ _ => rfl
theorem kF_tr {a b c : vH} (x : kF a b) (y : kF b c) : kF a c := fun k r i e => (y k r i e).trans (x k r i e)
theorem kF_up {h h2 : vH} {A j v : Int} (x : kF h h2) (hA : A = 132 ∨ A = 133) (hj : 0 ≤ j ∧ j < 4) : kF h (vup h2 2 A j v) := fun k r i e => (if_neg (fun z => e ⟨z.1, by omega, by omega, by omega⟩)).trans (x k r i e)
theorem kF_sx {h h2 : vH} (x : kF h h2) : sx h h2 := fun k r i hk => x k r i (fun z => by rw [z.1] at hk; cases hk)
/-- the class's arrays of the stack -/
def cSt (H : vH) (op wt ls lk : Int → Int) : Prop := ∀ p, 0 ≤ p → p < 4 → H 2 128 p = op p ∧ H 2 129 p = wt p ∧ H 2 130 p = ls p ∧ H 2 131 p = lk p
theorem cSt_F {h h2 : vH} {op wt ls lk : Int → Int} (x : kF h h2) (s : cSt h op wt ls lk) : cSt h2 op wt ls lk := fun p u v => by
  rw [x 2 128 p (by omega), x 2 129 p (by omega), x 2 130 p (by omega), x 2 131 p (by omega)]
  exact s p u v
theorem any_snoc {P : Int → Prop} {j : Int} (h0 : 0 ≤ j) : anyI P 0 (j + 1) ↔ anyI P 0 j ∨ P j := by
  constructor
  · rintro ⟨i, a, b, c⟩
    by_cases e : i = j
    · rw [e] at c; exact Or.inr c
    · exact Or.inl ⟨i, a, by omega, c⟩
  · rintro (⟨i, a, b, c⟩ | c)
    · exact ⟨i, a, by omega, c⟩
    · exact ⟨j, h0, by omega, c⟩
section CDL
variable {h H : vH} {op wt ls lk f : Int → Int}
noncomputable def sS0 (op lk : Int → Int) (p : Int) : Int := if ¬ op p = 0 ∧ lk p = -1 then 1 else 0
theorem sSh_fr (fr : anyI (fun k => ¬ op k = 0 ∧ lk k = -1) 0 4) {p : Int} : sSh op lk p = sS0 op lk p := by
  unfold sSh sS0 sLk
  by_cases c : op p = 0
  · rw [if_pos c, if_neg (fun z => z.1 c)]
  · rw [if_neg c]
    by_cases d : lk p = -1
    · rw [if_pos ⟨c, d⟩, b2i_f (fun z => z.1 d)]; rfl
    · rw [if_neg (fun z => d z.2), b2i_t ⟨d, Or.inl fr⟩]; rfl
theorem sSh_nf (fr : ¬ anyI (fun k => ¬ op k = 0 ∧ lk k = -1) 0 4) {p : Int} (hp : 0 ≤ p ∧ p < 4) : sSh op lk p = (if op p = 0 then 0 else if p = sLo op 4 then 1 else 0) ∧ sS0 op lk p = 0 := by
  have d : ¬ op p = 0 → ¬ lk p = -1 := fun c z => fr ⟨p, hp.1, hp.2, c, z⟩
  have k0 : p = sLo op 4 → sLk op lk p = 0 := fun e => b2i_f (fun z => z.2.elim fr (fun w => w e))
  have k1 : ¬ op p = 0 → ¬ p = sLo op 4 → sLk op lk p = 1 := fun c e => b2i_t ⟨d c, Or.inr e⟩
  unfold sSh sS0
  by_cases c : op p = 0
  · rw [if_pos c, if_pos c, if_neg (fun z => z.1 c)]; exact ⟨rfl, rfl⟩
  · rw [if_neg c, if_neg c, if_neg (show ¬ (¬ op p = 0 ∧ lk p = -1) from fun z => d c z.2)]
    refine ⟨?_, rfl⟩
    by_cases e : p = sLo op 4
    · rw [if_pos e, k0 e]; rfl
    · rw [if_neg e, k1 c e]; rfl
theorem C_findSharing (sS : shStack h) (s : cSt h op wt ls lk) (ho : ∃ p, 0 ≤ p ∧ p < 4 ∧ ¬ op p = 0) : ∃ h2, vcl mX9_findSharing [(1, 127)] h = some (.inl none, h2) ∧ kF h h2 ∧ ∀ p, 0 ≤ p → p < 4 → h2 2 133 p = sSh op lk p := by
  have loop : ∀ (n j : Nat) (x2 : Int) (H : vH), j + n = 4 → kF h H → (∀ p : Int, 0 ≤ p → p < j → H 2 133 p = sS0 op lk p) → x2 = b2i (¬ anyI (fun k => ¬ op k = 0 ∧ lk k = -1) 0 j) → ∃ h2, vrun mX9_findSharing 6 [(1, 127), (0, sLo op j), (0, x2), (0, (j : Int))] [] H = some (.inl none, h2) ∧ kF h h2 ∧ ∀ p, 0 ≤ p → p < 4 → h2 2 133 p = sSh op lk p := by
    intro n
    induction n with
    | zero =>
      intro j x2 H hj hX hP ex
      have e : j = 4 := by omega
      subst e
      have sS1 := shStack_sx (kF_sx hX) sS
      have base := rX9_findSharing_6 (x1 := sLo op 4) (x2 := x2) (x3 := ((4 : Nat) : Int)) (h := H) sS1 (by omega) (by omega) (by omega)
      rw [if_pos (by omega)] at base
      by_cases fr : anyI (fun k => ¬ op k = 0 ∧ lk k = -1) 0 4
      · have e0 : x2 = 0 := by rw [ex]; exact b2i_f (fun z => z fr)
        rw [if_pos e0] at base
        exact ⟨H, base, hX, fun p u v => (hP p u (by omega)).trans (sSh_fr fr).symm⟩
      · have e1 : x2 = 1 := by rw [ex]; exact b2i_t fr
        obtain ⟨q, q0, q4, qc⟩ := ho
        have lo := sLo_ge (op := op) 4 q q0 (by omega) qc
        obtain ⟨l1, l2, l3⟩ := (sLo_in (op := op) 4).resolve_left (by omega)
        rw [if_neg (by omega), if_pos (by omega)] at base
        refine ⟨_, base, kF_up hX (Or.inr rfl) (by omega), fun p u v => ?_⟩
        obtain ⟨n1, n2⟩ := sSh_nf fr ⟨u, v⟩
        rw [vup_2, n1]
        by_cases z : p = sLo op 4
        · rw [if_pos z, if_pos z, if_neg (by rw [z]; exact l3)]
        · rw [if_neg z, if_neg z, ite_self, hP p u (by omega), n2]
    | succ n ih =>
      intro j x2 H hj hX hP ex
      have sS1 := shStack_sx (kF_sx hX) sS
      have sj := cSt_F hX s j (by omega) (by omega)
      have ev : (if ¬ (H 2 128 (j : Int) = 0) ∧ H 2 131 (j : Int) = -1 then (1 : Int) else 0) = sS0 op lk j := by
        unfold sS0
        rw [sj.1, sj.2.2.2]
      have base := rX9_findSharing_6 (x1 := sLo op j) (x2 := x2) (x3 := (j : Int)) (h := H) sS1 (by omega) (by omega) (by omega)
      have rd : (vup H 2 133 (j : Int) (sS0 op lk j)) 2 133 (j : Int) = sS0 op lk j := vup_s
      rw [if_neg (by omega), ev, rd, sj.1] at base
      obtain ⟨h2, i1, i2⟩ := ih (j + 1) (if ¬ (x2 = 0) ∧ sS0 op lk j = 0 then 1 else 0) (vup H 2 133 (j : Int) (sS0 op lk j)) (by omega) (kF_up hX (Or.inr rfl) (by omega)) (by
        rw [show ((j + 1 : Nat) : Int) = (j : Int) + 1 by omega]
        exact wr_nx rfl hP) (by
        rw [b2i_if, show ((j + 1 : Nat) : Int) = (j : Int) + 1 by omega]
        apply b2i_c
        rw [any_snoc (by omega), ex, b2i_0, Classical.not_not]
        have e0 : sS0 op lk j = 0 ↔ ¬ (¬ op j = 0 ∧ lk j = -1) := by
          unfold sS0
          by_cases z : ¬ op j = 0 ∧ lk j = -1
          · rw [if_pos z]; exact ⟨fun w => absurd w (by decide), fun w => absurd z w⟩
          · rw [if_neg z]; exact ⟨fun _ => z, fun _ => rfl⟩
        rw [e0]
        exact ⟨fun z w => w.elim z.1 z.2, fun z => ⟨fun w => z (Or.inl w), fun w => z (Or.inr w)⟩⟩)
      exact ⟨h2, base.trans i1, i2⟩
  obtain ⟨h2, i1, i2⟩ := loop 4 0 1 h (by omega) kF_rf (fun p u v => by omega) (b2i_t (any_nil (by omega))).symm
  exact ⟨h2, rX9_findSharing_0.trans i1, i2⟩
theorem sSh_s (p : Int) : (¬ op p = 0 → sSh op lk p = 1 - sLk op lk p) ∧ (op p = 0 → sSh op lk p = 0) := ⟨fun c => if_neg c, fun c => if_pos c⟩
theorem C_firstPoor (sS : shStack H) (s : cSt H op wt ls lk) (hs : ∀ p, 0 ≤ p → p < 4 → H 2 133 p = sSh op lk p) (hf : ∀ p, 0 ≤ p → p < 4 → H 2 132 p = f p) : vcl mX9_firstPoor [(1, 127)] H = some (.inl (some (0, sPo op ls lk f 4 0)), H) := by
  have loop : ∀ (n : Nat) (p : Int), p + n = 4 → 0 ≤ p → vrun mX9_firstPoor 2 [(1, 127), (0, p)] [] H = some (.inl (some (0, sPo op ls lk f n p)), H) := by
    intro n
    induction n with
    | zero =>
      intro p hp h0
      refine (rX9_firstPoor_2 sS (by omega)).trans ?_
      rw [if_pos (by omega)]
      rfl
    | succ n ih =>
      intro p hp h0
      have e : sPo op ls lk f (n + 1) p = if sSh op lk p = 0 then sPo op ls lk f n (p + 1) else if ls p ≤ f p then sPo op ls lk f n (p + 1) else p := rfl
      refine (rX9_firstPoor_2 sS (by omega)).trans ?_
      rw [if_neg (by omega), hs p h0 (by omega), hf p h0 (by omega), (s p h0 (by omega)).2.2.1, ih (p + 1) (by omega) (by omega), e]
      by_cases c : sSh op lk p = 0
      · rw [if_pos c, if_pos c]
      · rw [if_neg c, if_neg c]
        by_cases d : ls p ≤ f p
        · rw [if_pos d, if_pos d]
        · rw [if_neg d, if_neg d]
  exact rX9_firstPoor_0.trans (loop 4 0 (by omega) (Int.le_refl _))
theorem C_richest (sS : shStack H) (s : cSt H op wt ls lk) (hs : ∀ p, 0 ≤ p → p < 4 → H 2 133 p = sSh op lk p) (hf : ∀ p, 0 ≤ p → p < 4 → H 2 132 p = f p) (fb : ∀ p, 0 ≤ p → p < 4 → -1000 ≤ f p ∧ f p ≤ 1000) (b : stB op wt ls lk) : vcl mX9_richest [(1, 127)] H = some (.inl (some (0, sRi op ls lk f 4 0 (-1))), H) := by
  have loop : ∀ (n : Nat) (p r m : Int), p + n = 4 → 0 ≤ p → (r = -1 ∧ m = 0 ∨ (¬ r = -1 ∧ m = f r - ls r ∧ 0 < m)) → vrun mX9_richest 6 [(1, 127), (0, r), (0, m), (0, p)] [] H = some (.inl (some (0, sRi op ls lk f n p r)), H) := by
    intro n
    induction n with
    | zero =>
      intro p r m hp h0 hm
      refine (rX9_richest_6 sS (by omega) (by omega) (by omega)).trans ?_
      rw [if_pos (by omega)]
      rfl
    | succ n ih =>
      intro p r m hp h0 hm
      have bp := b p h0 (by omega)
      have fp := fb p h0 (by omega)
      have hfp := hf p h0 (by omega)
      have hlp := (s p h0 (by omega)).2.2.1
      have e : sRi op ls lk f (n + 1) p r = sRi op ls lk f n (p + 1) (if sSh op lk p = 0 then r else if f p ≤ ls p then r else if r = -1 then p else if f p - ls p ≤ f r - ls r then r else p) := rfl
      refine (rX9_richest_6 sS (by omega) (by omega) (by omega)).trans ?_
      rw [if_neg (by omega), hs p h0 (by omega), hfp, hlp, e]
      by_cases c : sSh op lk p = 0
      · rw [if_pos c, if_pos c, if_pos c]
        exact ih (p + 1) r m (by omega) (by omega) hm
      · rw [if_neg c, if_neg c, if_neg c]
        by_cases d : f p - ls p ≤ m
        · rw [if_pos d, if_pos d]
          have e2 : (if f p ≤ ls p then r else if r = -1 then p else if f p - ls p ≤ f r - ls r then r else p) = r := by
            by_cases y : f p ≤ ls p
            · rw [if_pos y]
            · rw [if_neg y]
              rcases hm with ⟨m1, m2⟩ | ⟨m1, m2, m3⟩
              · omega
              · rw [if_neg m1, if_pos (by omega)]
          rw [e2]
          exact ih (p + 1) r m (by omega) (by omega) hm
        · rw [if_neg d, if_neg d]
          have e2 : (if f p ≤ ls p then r else if r = -1 then p else if f p - ls p ≤ f r - ls r then r else p) = p := by
            rw [if_neg (by omega)]
            rcases hm with ⟨m1, m2⟩ | ⟨m1, m2, m3⟩
            · rw [if_pos m1]
            · rw [if_neg m1, if_neg (by omega)]
          rw [e2]
          exact ih (p + 1) p (f p - ls p) (by omega) (by omega) (Or.inr ⟨by omega, rfl, by omega⟩)
  exact rX9_richest_0.trans (loop 4 0 (-1) 0 (by omega) (Int.le_refl _) (Or.inl ⟨rfl, rfl⟩))
theorem C_dealT (sS : shStack h) (s : cSt h op wt ls lk) (b : stB op wt ls lk) {x1 x2 : Int} : ∀ (n : Nat) (f : Int → Int) (x3 : Int) (v4 v5 : vv) (H : vH), x3 + n = 24 → 0 ≤ x3 → kF h H → (∀ p, 0 ≤ p → p < 4 → H 2 133 p = sSh op lk p) → (∀ p, 0 ≤ p → p < 4 → H 2 132 p = f p) → (∀ p, 0 ≤ p → p < 4 → -500 + n ≤ f p ∧ f p ≤ 500 - n) → ∃ h2, vrun mX9_deal 99 [(1, 127), (0, x1), (0, x2), (0, x3), v4, v5] [] H = some (.inl none, h2) ∧ kF h h2 ∧ ∀ p, 0 ≤ p → p < 4 → h2 2 132 p = sTf op ls lk n f p := by
  intro n
  induction n with
  | zero =>
    intro f x3 v4 v5 H hx h0 hX hs hf fb
    have sS1 := shStack_sx (kF_sx hX) sS
    refine ⟨H, (rX9_deal_99 sS1).trans ?_, hX, hf⟩
    rw [if_pos (by omega)]
  | succ n ih =>
    intro f x3 v4 v5 H hx h0 hX hs hf fb
    have sS1 := shStack_sx (kF_sx hX) sS
    have s1 := cSt_F hX s
    have po := C_firstPoor sS1 s1 hs hf
    have ri := C_richest sS1 s1 hs hf (fun p u v => by have := fb p u v; omega) b
    have e : sTf op ls lk (n + 1) f = if sPo op ls lk f 4 0 = -1 then f else if sRi op ls lk f 4 0 (-1) = -1 then f else sTf op ls lk n (sSt op ls lk f) := rfl
    have pin := sPo_in (op := op) (ls := ls) (lk := lk) (f := f) 4 0
    have rin := sRi_in (op := op) (ls := ls) (lk := lk) (f := f) 4 0 (-1) (Int.le_refl _) (Or.inl rfl)
    have st : ∀ i, sSt op ls lk f i = if i = sPo op ls lk f 4 0 then f i + 1 else if i = sRi op ls lk f 4 0 (-1) then f i - 1 else f i := fun i => rfl
    rw [e]
    generalize hP : sPo op ls lk f 4 0 = P at *
    generalize hR : sRi op ls lk f 4 0 (-1) = R at *
    have base0 := (rX9_deal_99 (x1 := x1) (x2 := x2) (x3 := x3) (v4 := v4) (v5 := v5) sS1)
    rw [if_neg (by omega)] at base0
    have hfP : 0 ≤ P → P < 4 → H 2 132 P = f P := hf P
    have bP : 0 ≤ P → P < 4 → -500 + ((n + 1 : Nat) : Int) ≤ f P ∧ f P ≤ 500 - ((n + 1 : Nat) : Int) := fb P
    have vR : P = -1 ∨ R = -1 ∨ (vup H 2 132 P (H 2 132 P + 1)) 2 132 R = f R := by
      by_cases z1 : P = -1
      · exact Or.inl z1
      · by_cases z2 : R = -1
        · exact Or.inr (Or.inl z2)
        · obtain ⟨p1, p2, p3, p4⟩ := pin.resolve_left z1
          obtain ⟨r1, r2, r3, r4⟩ := rin.resolve_left z2
          have ne : ¬ R = P := fun z => by rw [z] at r4; omega
          exact Or.inr (Or.inr ((vup_i ne).trans (hf R r1 (by omega))))
    have bR : 0 ≤ R → R < 4 → -500 + ((n + 1 : Nat) : Int) ≤ f R ∧ f R ≤ 500 - ((n + 1 : Nat) : Int) := fb R
    have base := base0.trans ((vret_v po).trans ((rX9_deal_109 sS1).trans ((vret_v ri).trans (rX9_deal_115 sS1 (by omega) (by omega) (by omega) (by omega) (by omega) (by omega) (by omega) (by omega) (by omega) (by omega)))))
    by_cases z1 : P = -1
    · rw [if_pos z1]
      rw [if_neg (by omega)] at base
      exact ⟨H, base, hX, hf⟩
    · rw [if_neg z1]
      obtain ⟨p1, p2, p3, p4⟩ := pin.resolve_left z1
      rw [if_pos (by omega)] at base
      by_cases z2 : R = -1
      · rw [if_pos z2]
        rw [if_neg (by omega)] at base
        exact ⟨H, base, hX, hf⟩
      · rw [if_neg z2]
        obtain ⟨r1, r2, r3, r4⟩ := rin.resolve_left z2
        rw [if_pos (by omega)] at base
        have ne : ¬ R = P := fun z => by rw [z] at r4; omega
        have vR := (vR.resolve_left z1).resolve_left z2
        have hfP := hfP (by omega) (by omega)
        obtain ⟨h2, i1, i2, i3⟩ := ih (sSt op ls lk f) (x3 + 1) (0, P) (0, R) (vup (vup H 2 132 P (H 2 132 P + 1)) 2 132 R ((vup H 2 132 P (H 2 132 P + 1)) 2 132 R - 1)) (by omega) (by omega) (kF_up (kF_up hX (Or.inl rfl) (by omega)) (Or.inl rfl) (by omega)) (fun p u v => by
          rw [vup_r (by decide), vup_r (by decide)]; exact hs p u v) (fun p u v => by
          rw [vup_2, vR, st]
          by_cases y : p = R
          · rw [if_pos y, if_neg (by rw [y]; exact ne), if_pos y, y]
          · rw [if_neg y, if_neg y, vup_2]
            by_cases y2 : p = P
            · rw [if_pos y2, if_pos y2, hfP, y2]
            · rw [if_neg y2, if_neg y2]; exact hf p u v) (fun p u v => by
          have := fb p u v
          rw [st]
          split
          · omega
          · split <;> omega)
        exact ⟨h2, base.trans i1, i2, i3⟩
theorem C_give (sS : shStack h) (s : cSt h op wt ls lk) (b : stB op wt ls lk) (hs : ∀ p, 0 ≤ p → p < 4 → h 2 133 p = sSh op lk p) (hf : ∀ p, 0 ≤ p → p < 4 → h 2 132 p = sF1 op lk p) : ∃ h2, vcl mX9_giveRest [(1, 127), (0, sRe op lk), (0, sSm (sWt op wt lk) 4)] h = some (.inl none, h2) ∧ hF 132 h h2 ∧ ∀ p, 0 ≤ p → p < 4 → h2 2 132 p = sF3 op wt lk p := by
  have sxF : ∀ {H}, hF 132 h H → shStack H ∧ cSt H op wt ls lk ∧ (∀ p, 0 ≤ p → p < 4 → H 2 133 p = sSh op lk p) := fun x => ⟨shStack_sx (hF_sx x) sS, fun p u v => by
    rw [x 2 128 p (by omega), x 2 129 p (by omega), x 2 130 p (by omega), x 2 131 p (by omega)]
    exact s p u v, fun p u v => (x 2 133 p (by omega)).trans (hs p u v)⟩
  have re := sRe_in b
  have loop2 : ∀ (n j : Nat) (H : vH), j + n = 4 → hF 132 h H → (∀ p : Int, 0 ≤ p → p < j → H 2 132 p = sF3 op wt lk p) → (∀ p : Int, j ≤ p → p < 4 → H 2 132 p = sF2 op wt lk p) → ∃ h2, vrun mX9_giveRest 62 [(1, 127), (0, sRe op lk), (0, sSm (sWt op wt lk) 4), (0, sLf op wt lk j), (0, (j : Int))] [] H = some (.inl none, h2) ∧ hF 132 h h2 ∧ ∀ p, 0 ≤ p → p < 4 → h2 2 132 p = sF3 op wt lk p := by
    intro n
    induction n with
    | zero =>
      intro j H hj hX hP hQ
      have e : j = 4 := by omega
      subst e
      obtain ⟨k1, k2, k3⟩ := sxF hX
      refine ⟨H, (rX9_giveRest_62 k1 (by omega) (by omega) (by omega) (by omega)).trans ?_, hX, hP⟩
      rw [if_pos (by omega)]
    | succ n ih =>
      intro j H hj hX hP hQ
      obtain ⟨k1, k2, k3⟩ := sxF hX
      have sj := k3 j (by omega) (by omega)
      have f2 := sF2_in b (p := (j : Int)) (by omega) (by omega)
      have hj2 := hQ j (Int.le_refl _) (by omega)
      have lf := sLf_in b j (by omega)
      have eL : sLf op wt lk (j + 1) = sLf op wt lk j - (if op j = 0 then 0 else if sLk op lk j = 0 ∧ ¬ (sLf op wt lk j ≤ 0) then 1 else 0) := rfl
      have eG : sG op wt lk j = if op j = 0 then 0 else if sLk op lk j = 0 ∧ ¬ (sLf op wt lk j ≤ 0) then 1 else 0 := by
        unfold sG
        rw [Int.toNat_natCast]
      have e3 : sF3 op wt lk j = sF2 op wt lk j + sG op wt lk j := rfl
      rw [← eG] at eL
      have base := rX9_giveRest_62 (x1 := sRe op lk) (x2 := sSm (sWt op wt lk) 4) (x3 := sLf op wt lk j) (x4 := (j : Int)) (h := H) k1 (by omega) (by omega) (by omega) (by omega)
      rw [if_neg (by omega), sj, hj2] at base
      have skip : sG op wt lk j = 0 → ∃ h2, vrun mX9_giveRest 62 [(1, 127), (0, sRe op lk), (0, sSm (sWt op wt lk) 4), (0, sLf op wt lk j), (0, (j : Int) + 1)] [] H = some (.inl none, h2) ∧ hF 132 h h2 ∧ ∀ p, 0 ≤ p → p < 4 → h2 2 132 p = sF3 op wt lk p := by
        intro g0
        have := ih (j + 1) H (by omega) hX (fun p u v => by
          by_cases y : p = j
          · rw [y, hj2]; omega
          · exact hP p u (by omega)) (fun p u v => hQ p (by omega) v)
        rw [eL, g0, Int.sub_zero, show ((j + 1 : Nat) : Int) = (j : Int) + 1 by omega] at this
        exact this
      by_cases c : sSh op lk j = 0
      · have g0 : sG op wt lk j = 0 := by
          rw [eG]
          by_cases y : op j = 0
          · rw [if_pos y]
          · have := (sSh_s (op := op) (lk := lk) (j : Int)).1 y
            rw [if_neg y, if_neg (by omega)]
        rw [if_pos c, if_pos c] at base
        obtain ⟨h2, i1, i2⟩ := skip g0
        exact ⟨h2, base.trans i1, i2⟩
      · have oc : ¬ op j = 0 := fun y => c ((sSh_s (op := op) (lk := lk) (j : Int)).2 y)
        have lc : sLk op lk j = 0 := by
          have := (sSh_s (op := op) (lk := lk) (j : Int)).1 oc
          rcases sLk_01 (op := op) (lk := lk) (p := (j : Int)) with z | z
          · exact z
          · omega
        rw [if_neg c, if_neg c] at base
        by_cases d : sLf op wt lk j ≤ 0
        · have g0 : sG op wt lk j = 0 := by rw [eG, if_neg oc, if_neg (fun z => z.2 d)]
          rw [if_pos d, if_pos d] at base
          obtain ⟨h2, i1, i2⟩ := skip g0
          exact ⟨h2, base.trans i1, i2⟩
        · have g1 : sG op wt lk j = 1 := by rw [eG, if_neg oc, if_pos ⟨lc, d⟩]
          rw [if_neg d, if_neg d] at base
          obtain ⟨h2, i1, i2⟩ := ih (j + 1) (vup H 2 132 (j : Int) (sF2 op wt lk j + 1)) (by omega) (hF_up hX (by omega)) (by
            rw [show ((j + 1 : Nat) : Int) = (j : Int) + 1 by omega]
            exact wr_nx (by omega) hP) (fun p u v => by
            rw [vup_i (by omega)]; exact hQ p (by omega) v)
          refine ⟨h2, base.trans ?_, i2⟩
          rw [show sLf op wt lk j + -1 = sLf op wt lk (j + 1) by omega, show (j : Int) + 1 = ((j + 1 : Nat) : Int) by omega]
          exact i1
  have loop1 : ∀ (n j : Nat) (H : vH), j + n = 4 → hF 132 h H → (∀ p : Int, 0 ≤ p → p < j → H 2 132 p = sF2 op wt lk p) → (∀ p : Int, j ≤ p → p < 4 → H 2 132 p = sF1 op lk p) → ∃ h2, vrun mX9_giveRest 5 [(1, 127), (0, sRe op lk), (0, sSm (sWt op wt lk) 4), (0, sRe op lk - sSm (sQ op wt lk) j), (0, (j : Int))] [] H = some (.inl none, h2) ∧ hF 132 h h2 ∧ ∀ p, 0 ≤ p → p < 4 → h2 2 132 p = sF3 op wt lk p := by
    intro n
    induction n with
    | zero =>
      intro j H hj hX hP hQ
      have e : j = 4 := by omega
      subst e
      obtain ⟨k1, k2, k3⟩ := sxF hX
      obtain ⟨h2, i1, i2⟩ := loop2 4 0 H (by omega) hX (fun p u v => by omega) (fun p u v => hP p (by omega) v)
      refine ⟨h2, (rX9_giveRest_5 k1 (by omega) (by omega) (by omega) (by omega) (by omega) (by omega)).trans ?_, i2⟩
      rw [if_pos (by omega)]
      exact i1
    | succ n ih =>
      intro j H hj hX hP hQ
      obtain ⟨k1, k2, k3⟩ := sxF hX
      have sj := k3 j (by omega) (by omega)
      have wj := (k2 j (by omega) (by omega)).2.1
      have q := sQ_in b (p := (j : Int)) (by omega) (by omega)
      have eQ : sSm (sQ op wt lk) (j + 1) = sSm (sQ op wt lk) j + sQ op wt lk j := rfl
      have qs := sSm_in (g := sQ op wt lk) (m := 216) (fun p u v => (sQ_in b u v).2.2) j (by omega)
      by_cases c : sSh op lk j = 0
      · have z1 : sF2 op wt lk j = sF1 op lk j ∧ sQ op wt lk j = 0 := by
          unfold sF2 sQ
          by_cases y : op j = 0
          · rw [if_pos y, if_pos y]; exact ⟨rfl, rfl⟩
          · have := (sSh_s (op := op) (lk := lk) (j : Int)).1 y
            rw [if_neg y, if_neg y, if_neg (by omega), if_neg (by omega)]; exact ⟨rfl, rfl⟩
        have base := rX9_giveRest_5 (x1 := sRe op lk) (x2 := sSm (sWt op wt lk) 4) (x3 := sRe op lk - sSm (sQ op wt lk) j) (x4 := (j : Int)) (h := H) k1 (by omega) (by omega) (by omega) (by omega) (by omega) (by omega)
        rw [if_neg (by omega), sj, if_pos c, if_pos c] at base
        obtain ⟨h2, i1, i2⟩ := ih (j + 1) H (by omega) hX (fun p u v => by
          by_cases y : p = j
          · rw [y, hQ j (Int.le_refl _) (by omega)]; exact z1.1.symm
          · exact hP p u (by omega)) (fun p u v => hQ p (by omega) v)
        refine ⟨h2, base.trans ?_, i2⟩
        rw [show sRe op lk - sSm (sQ op wt lk) j = sRe op lk - sSm (sQ op wt lk) (j + 1) by omega, show (j : Int) + 1 = ((j + 1 : Nat) : Int) by omega]
        exact i1
      · have oc : ¬ op j = 0 := fun y => c ((sSh_s (op := op) (lk := lk) (j : Int)).2 y)
        have lc : sLk op lk j = 0 := by
          have := (sSh_s (op := op) (lk := lk) (j : Int)).1 oc
          rcases sLk_01 (op := op) (lk := lk) (p := (j : Int)) with z | z
          · exact z
          · omega
        have wp := q.2.1 oc lc
        have z1 : sF2 op wt lk j = sRe op lk * wt j / sSm (sWt op wt lk) 4 := by unfold sF2; rw [if_neg oc, if_pos lc]
        have z2 : sQ op wt lk j = sRe op lk * wt j / sSm (sWt op wt lk) 4 := by unfold sQ; rw [if_neg oc, if_pos lc]
        have rd : (vup H 2 132 (j : Int) (sRe op lk * wt j / sSm (sWt op wt lk) 4)) 2 132 (j : Int) = sQ op wt lk j := vup_s.trans z2.symm
        have base := rX9_giveRest_5 (x1 := sRe op lk) (x2 := sSm (sWt op wt lk) 4) (x3 := sRe op lk - sSm (sQ op wt lk) j) (x4 := (j : Int)) (h := H) k1 (by omega) (by rw [wj]; omega) (by rw [wj]; omega) (by rw [wj]; exact fun _ _ _ => q.1.1) (by rw [wj, rd]; omega) (by rw [wj, rd]; omega)
        rw [if_neg (by omega), sj, if_neg c, if_neg c, if_neg (by omega), if_neg (by omega), wj, rd] at base
        obtain ⟨h2, i1, i2⟩ := ih (j + 1) (vup H 2 132 (j : Int) (sRe op lk * wt j / sSm (sWt op wt lk) 4)) (by omega) (hF_up hX (by omega)) (by
          rw [show ((j + 1 : Nat) : Int) = (j : Int) + 1 by omega]
          exact wr_nx z1.symm hP) (fun p u v => by
          rw [vup_i (by omega)]; exact hQ p (by omega) v)
        refine ⟨h2, base.trans ?_, i2⟩
        rw [show sRe op lk - sSm (sQ op wt lk) j - sQ op wt lk j = sRe op lk - sSm (sQ op wt lk) (j + 1) by omega, show (j : Int) + 1 = ((j + 1 : Nat) : Int) by omega]
        exact i1
  obtain ⟨h2, i1, i2⟩ := loop1 4 0 h (by omega) hF_rf (fun p u v => by omega) (fun p u v => hf p (by omega) v)
  refine ⟨h2, rX9_giveRest_0.trans (Eq.trans ?_ i1), i2⟩
  show vrun mX9_giveRest 5 [(1, 127), (0, sRe op lk), (0, sSm (sWt op wt lk) 4), (0, sRe op lk), (0, 0)] [] h = vrun mX9_giveRest 5 [(1, 127), (0, sRe op lk), (0, sSm (sWt op wt lk) 4), (0, sRe op lk - 0), (0, 0)] [] h
  rw [Int.sub_zero]
theorem hF_K {h h2 : vH} (x : hF 132 h h2) : kF h h2 := fun k r i e => x k r i (fun z => e ⟨z.1, Or.inl z.2.1, z.2.2⟩)
theorem C_deal (sS : shStack h) (s : cSt h op wt ls lk) (b : stB op wt ls lk) (ho : ∃ p, 0 ≤ p ∧ p < 4 ∧ ¬ op p = 0) : ∃ h2, vcl mX9_deal [(1, 127)] h = some (.inl none, h2) ∧ kF h h2 ∧ ∀ p, 0 ≤ p → p < 4 → h2 2 132 p = sHt op wt ls lk p := by
  obtain ⟨h1, a1, a2, a3⟩ := C_findSharing sS s ho
  have loop : ∀ (n j : Nat) (H : vH), j + n = 4 → kF h H → (∀ p, 0 ≤ p → p < 4 → H 2 133 p = sSh op lk p) → (∀ p : Int, 0 ≤ p → p < j → H 2 132 p = sF1 op lk p) → ∃ h2, vrun mX9_deal 11 [(1, 127), (0, 24 - sSm (sF1 op lk) j), (0, sSm (sWt op wt lk) j), (0, (j : Int)), (9, 0), (9, 0)] [] H = some (.inl none, h2) ∧ kF h h2 ∧ ∀ p, 0 ≤ p → p < 4 → h2 2 132 p = sHt op wt ls lk p := by
    intro n
    induction n with
    | zero =>
      intro j H hj hX hs hP
      have e : j = 4 := by omega
      subst e
      have sS1 := shStack_sx (kF_sx hX) sS
      have er : max 0 (24 - sSm (sF1 op lk) 4) = sRe op lk := by unfold sRe; split <;> omega
      have base := rX9_deal_11 (x1 := 24 - sSm (sF1 op lk) 4) (x2 := sSm (sWt op wt lk) 4) (x3 := ((4 : Nat) : Int)) (h := H) sS1 (by omega) (by omega) (by omega) (by omega) (by omega)
      rw [if_pos (by omega), er] at base
      obtain ⟨H2, g1, g2, g3⟩ := C_give sS1 (cSt_F hX s) b hs hP
      have X2 := kF_tr hX (hF_K g2)
      obtain ⟨H3, t1, t2, t3⟩ := C_dealT sS s b (x1 := 24 - sSm (sF1 op lk) 4) (x2 := sSm (sWt op wt lk) 4) 24 (sF3 op wt lk) 0 (9, 0) (9, 0) H2 (by omega) (Int.le_refl _) X2 (fun p u v => (g2 2 133 p (by omega)).trans (hs p u v)) g3 (fun p u v => by have := sF3_in b u v; omega)
      exact ⟨H3, base.trans ((vret_n g1).trans (rX9_deal_97.trans t1)), t2, t3⟩
    | succ n ih =>
      intro j H hj hX hs hP
      have sS1 := shStack_sx (kF_sx hX) sS
      have sj := cSt_F hX s j (by omega) (by omega)
      have hsj := hs j (by omega) (by omega)
      have f1 := sF1_in b (p := (j : Int)) (by omega) (by omega)
      have w1 := sWt_in b (p := (j : Int)) (by omega) (by omega)
      have q1 := sSm_in (g := sF1 op lk) (m := 16) (fun p u v => sF1_in b u v) j (by omega)
      have q2 := sSm_in (g := sWt op wt lk) (m := 9) (fun p u v => ⟨(sWt_in b u v).1, (sWt_in b u v).2.1⟩) j (by omega)
      have eF : sSm (sF1 op lk) (j + 1) = sSm (sF1 op lk) j + sF1 op lk j := rfl
      have eW : sSm (sWt op wt lk) (j + 1) = sSm (sWt op wt lk) j + sWt op wt lk j := rfl
      have sh := sSh_s (op := op) (lk := lk) (j : Int)
      have l01 := sLk_01 (op := op) (lk := lk) (p := (j : Int))
      have ev : (if H 2 128 (j : Int) = 0 then 0 else (if H 2 133 (j : Int) = 0 then H 2 131 (j : Int) else 0)) = sF1 op lk j := by
        rw [sj.1, hsj, sj.2.2.2]
        unfold sF1
        by_cases y : op j = 0
        · rw [if_pos y, if_pos y]
        · have := sh.1 y
          rw [if_neg y, if_neg y]
          by_cases z : sLk op lk j = 0
          · rw [if_pos z, if_neg (by omega)]
          · rw [if_neg z, if_pos (by omega)]
      have ew : (if H 2 133 (j : Int) = 0 then 0 else H 2 129 (j : Int)) = sWt op wt lk j := by
        rw [hsj, sj.2.1]
        unfold sWt
        by_cases y : op j = 0
        · rw [if_pos y, if_pos (sh.2 y)]
        · have := sh.1 y
          rw [if_neg y]
          by_cases z : sLk op lk j = 0
          · rw [if_pos z, if_neg (by omega)]
          · rw [if_neg z, if_pos (by omega)]
      have rd : (vup H 2 132 (j : Int) (sF1 op lk j)) 2 132 (j : Int) = sF1 op lk j := vup_s
      have base := rX9_deal_11 (x1 := 24 - sSm (sF1 op lk) j) (x2 := sSm (sWt op wt lk) j) (x3 := (j : Int)) (h := H) sS1 (by omega) (by rw [ev, rd]; omega) (by rw [ev, rd]; omega) (by rw [ew]; omega) (by rw [ew]; omega)
      rw [if_neg (by omega), ev, rd, ew] at base
      obtain ⟨h2, i1, i2⟩ := ih (j + 1) (vup H 2 132 (j : Int) (sF1 op lk j)) (by omega) (kF_up hX (Or.inl rfl) (by omega)) (fun p u v => by
        rw [vup_r (by decide)]; exact hs p u v) (by
        rw [show ((j + 1 : Nat) : Int) = (j : Int) + 1 by omega]
        exact wr_nx rfl hP)
      refine ⟨h2, base.trans ?_, i2⟩
      rw [show 24 - sSm (sF1 op lk) j - sF1 op lk j = 24 - sSm (sF1 op lk) (j + 1) by omega, ← eW, show (j : Int) + 1 = ((j + 1 : Nat) : Int) by omega]
      exact i1
  obtain ⟨h2, i1, i2⟩ := loop 4 0 h1 (by omega) a2 a3 (fun p u v => by omega)
  exact ⟨h2, (rX9_deal_0 sS).trans ((vret_n a1).trans (rX9_deal_4.trans i1)), i2⟩
end CDL

