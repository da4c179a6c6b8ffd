/-! a line is broken: the text on both sides -/
def lnB0 (h : vH) (l c : Int) : vH := vup (vup (vup (vcp h 5 (l + 1) 5 (l + 2) (c - l - 1)) 2 5 (l + 1) (h 2 5 c)) 601 (h 2 5 c) 0 0) 602 (h 2 5 c) 0 0
def lnB (h : vH) (l x c n : Int) : vH := vup (vup (vup (vcp (lnB0 h l c) (h 2 5 l + 1) x (h 2 5 c + 1) 0 (n - x)) 601 (h 2 5 c) 0 (n - x)) 601 (h 2 5 l) 0 x) 1201 4 0 (c + 1)
section BK2
variable {h h2 a b : vH} {p q P Q X l x s f u t j st r l0 x0 n e m c : Int}
/-- what the reference's text reads then -/
theorem tB_n : tB a l x 1504 282 0 = a 1504 282 0 + 1 := (vup_k (by decide)).trans (if_pos ⟨rfl, rfl, rfl⟩)
theorem tB_o {k : Nat} {r i : Int} (n : ¬ (k = 2 ∧ 283 ≤ r ∧ r ≤ 285)) (m : ¬ (k = 1504 ∧ r = 282)) : tB a l x k r i = a k r i := by
  unfold tB vup tBe cpD
  rw [if_neg (by omega), if_neg (by omega), if_neg (by omega), if_neg (by omega), if_neg (by omega), if_neg (by omega), if_neg (by omega), if_neg (by omega)]
theorem tB_l {i : Int} : tB a l x 2 284 i = if i = l then x else if i = l + 1 then a 2 284 l - x else if l + 1 < i ∧ i ≤ a 1504 282 0 then a 2 284 (i - 1) else a 2 284 i := by
  unfold tB
  rw [vup_2]
  by_cases z : i = l
  · rw [if_pos z, if_pos z]
  · rw [if_neg z, if_neg z]
    unfold tBe
    rw [if_neg (fun w => absurd w.1 (by decide)), if_neg (fun w => absurd w.2.1 (by decide))]
    by_cases y : i = l + 1
    · rw [if_pos y, if_pos ⟨rfl, rfl, y⟩]
    · rw [if_neg y, if_neg (fun w => y w.2.2), if_neg (fun w => absurd w.2.1 (by decide))]
      unfold cpD
      rw [if_neg (fun w => absurd w.2.1 (by decide))]
      by_cases w : l + 1 < i ∧ i ≤ a 1504 282 0
      · rw [if_pos w, if_pos ⟨rfl, rfl, w⟩]
      · rw [if_neg w, if_neg (fun v => w v.2.2), if_neg (fun v => absurd v.2.1 (by decide))]
theorem tB_m {i : Int} : tB a l x 2 285 i = if i = l + 1 then 0 else if l + 1 < i ∧ i ≤ a 1504 282 0 then a 2 285 (i - 1) else a 2 285 i := by
  unfold tB
  rw [vup_r (by decide)]
  unfold tBe
  rw [if_neg (fun w => absurd w.1 (by decide))]
  by_cases y : i = l + 1
  · rw [if_pos y, if_pos ⟨rfl, rfl, y⟩]
  · rw [if_neg y, if_neg (fun w => y w.2.2), if_neg (fun w => absurd w.2.1 (by decide)), if_neg (fun w => absurd w.2.1 (by decide))]
    unfold cpD
    by_cases w : l + 1 < i ∧ i ≤ a 1504 282 0
    · rw [if_pos w, if_pos ⟨rfl, rfl, w⟩]
    · rw [if_neg w, if_neg (fun v => w v.2.2), if_neg (fun v => absurd v.2.1 (by decide)), if_neg (fun v => absurd v.2.1 (by decide))]
theorem tB_s {i : Int} : tB a l x 2 283 i = if 80 * (l + 1) ≤ i ∧ i < 80 * (l + 1) + (a 2 284 l - x) then a 2 283 (i - 80 + x) else if 80 * (l + 2) ≤ i ∧ i < 80 * (a 1504 282 0 + 1) then a 2 283 (i - 80) else a 2 283 i := by
  unfold tB
  rw [vup_r (by decide)]
  unfold tBe
  rw [if_neg (fun w => absurd w.1 (by decide)), if_neg (fun w => absurd w.2.1 (by decide)), if_neg (fun w => absurd w.2.1 (by decide))]
  by_cases y : 80 * (l + 1) ≤ i ∧ i < 80 * (l + 1) + (a 2 284 l - x)
  · rw [if_pos y, if_pos ⟨rfl, rfl, y⟩]
  · rw [if_neg y, if_neg (fun w => y w.2.2)]
    unfold cpD
    rw [if_neg (fun w => absurd w.2.1 (by decide)), if_neg (fun w => absurd w.2.1 (by decide))]
    by_cases w : 80 * (l + 2) ≤ i ∧ i < 80 * (a 1504 282 0 + 1)
    · rw [if_pos w, if_pos ⟨rfl, rfl, by omega, w.2⟩]
    · rw [if_neg w, if_neg (fun v => w (by omega))]
theorem tB_eqTx : eqTx a (tB a l x) := fun k r i n m => tB_o (by omega) (by omega)
/-- the class's lines -/
theorem lnB0_5 {i : Int} : lnB0 h l c 2 5 i = if i = l + 1 then h 2 5 c else if l + 1 < i ∧ i ≤ c then h 2 5 (i - 1) else h 2 5 i := by
  refine (vup_k (by decide)).trans ((vup_k (by decide)).trans ?_)
  rw [vup_2]
  by_cases z : i = l + 1
  · rw [if_pos z, if_pos z]
  · rw [if_neg z, if_neg z]
    unfold vcp
    by_cases y : l + 1 < i ∧ i ≤ c
    · rw [if_pos y, if_pos ⟨rfl, rfl, by omega, by omega⟩, show l + 1 + (i - (l + 2)) = i - 1 by omega]
    · rw [if_neg y, if_neg (fun w => y (by omega))]
theorem lnB0_2 {i : Int} (e : ¬ r = 5) : lnB0 h l c 2 r i = h 2 r i := (vup_k (by decide)).trans ((vup_k (by decide)).trans ((vup_r e).trans (vcp_r e)))
theorem lnB0_k {k : Nat} {i : Int} (e : ¬ k = 2 ∧ ¬ k = 601 ∧ ¬ k = 602) : lnB0 h l c k r i = h k r i := (vup_k e.2.2).trans ((vup_k e.2.1).trans ((vup_k e.1).trans (vcp_k e.1)))
theorem lnB0_sx : sx h (lnB0 h l c) := sx_up rfl (sx_up rfl (sx_up rfl (sx_cp sx_rf)))
theorem lnB_sx : sx h (lnB h l x c n) := sx_tr lnB0_sx (sx_up rfl (sx_up rfl (sx_up rfl (sx_cp sx_rf))))
theorem lnB_5 {i : Int} (h6 : 6 ≤ h 2 5 c) : lnB h l x c n 2 5 i = if i = l + 1 then h 2 5 c else if l + 1 < i ∧ i ≤ c then h 2 5 (i - 1) else h 2 5 i := (vup_k (by decide)).trans ((vup_k (by decide)).trans ((vup_k (by decide)).trans ((vcp_r (by omega)).trans lnB0_5)))
theorem lnB_2 {i : Int} (e : ¬ r = 5) (e2 : ¬ r = h 2 5 c + 1) : lnB h l x c n 2 r i = h 2 r i := (vup_k (by decide)).trans ((vup_k (by decide)).trans ((vup_k (by decide)).trans ((vcp_r e2).trans (lnB0_2 e))))
theorem lnB_f {i : Int} (h6 : 6 ≤ h 2 5 l) (u : 0 ≤ i) (v : i < n - x) : lnB h l x c n 2 (h 2 5 c + 1) i = h 2 (h 2 5 l + 1) (x + i) := by
  refine (vup_k (by decide)).trans ((vup_k (by decide)).trans ((vup_k (by decide)).trans ?_))
  unfold vcp
  rw [if_pos ⟨rfl, rfl, u, by omega⟩, lnB0_2 (by omega), show x + (i - 0) = x + i by omega]
theorem lnB_z {r : Int} : lnB h l x c n 601 r 0 = if r = h 2 5 l then x else if r = h 2 5 c then n - x else h 601 r 0 := by
  refine (vup_k (by decide)).trans ?_
  by_cases z : r = h 2 5 l
  · rw [if_pos z, z]; exact vup_s
  · rw [if_neg z]
    refine (vup_r z).trans ?_
    by_cases y : r = h 2 5 c
    · rw [if_pos y, y]; exact vup_s
    · rw [if_neg y]
      exact (vup_r y).trans ((vcp_k (by decide)).trans ((vup_k (by decide)).trans ((vup_r y).trans ((vup_k (by decide)).trans (vcp_k (by decide))))))
theorem lnB_m {r : Int} : lnB h l x c n 602 r 0 = if r = h 2 5 c then 0 else h 602 r 0 := by
  refine (vup_k (by decide)).trans ((vup_k (by decide)).trans ((vup_k (by decide)).trans ((vcp_k (by decide)).trans ?_)))
  by_cases y : r = h 2 5 c
  · rw [if_pos y, y]; exact vup_s
  · rw [if_neg y]
    exact (vup_r y).trans ((vup_k (by decide)).trans ((vup_k (by decide)).trans (vcp_k (by decide))))
theorem lnB_tF (hX : 6 ≤ h 2 5 l ∧ h 2 5 l ≤ 124) (hF : 6 ≤ h 2 5 c ∧ h 2 5 c ≤ 124) : tF h (lnB h l x c n) := fun k r i e => by
  unfold lnB lnB0 vup vcp
  dsimp only
  rw [if_neg (by omega), if_neg (by omega), if_neg (by omega), if_neg (by omega), if_neg (by omega), if_neg (by omega), if_neg (by omega), if_neg (by omega)]
theorem C_breakAt (c5 : cTx h a) (hl : 0 ≤ l ∧ l < a 1504 282 0) (hc : a 1504 282 0 < 60) (hx : 0 ≤ x ∧ x ≤ a 2 284 l) (h80 : a 2 284 l ≤ 80) : vcl mX10_breakAt [(1, 4), (0, l), (0, x)] h = some (.inl none, lnB h l x (a 1504 282 0) (a 2 284 l)) := by
  obtain ⟨c1, c2, c3, c4, c5⟩ := c5
  have ec : h 1201 4 0 = a 1504 282 0 := c2.1
  have rX := c3 l hl.1 (by omega)
  have rF := c3 (a 1504 282 0) (by omega) hc
  have ne : ¬ h 2 5 l = h 2 5 (a 1504 282 0) := c4 l _ hl.1 hl.2 hc
  have dl := (c5 l hl.1 hl.2).1
  have e0 := (show vcl mX10_breakAt [(1, 4), (0, l), (0, x)] h = _ from rX10_breakAt_0 c1 (by omega) (by omega) (by omega) (by omega) (by omega) (by omega) (by omega) (by omega) (fun _ _ _ i u v => Or.inr (by
    rw [ec] at v
    exact (c3 (l + 1 + i) (by omega) (by omega)).1.1)) (fun _ _ _ => by rw [ec]; exact rF.1) (by omega) (by omega))
  rw [ec, if_neg (by omega), if_neg (by omega), if_pos hc] at e0
  have eX : lnB0 h l (a 1504 282 0) 2 5 l = h 2 5 l := by rw [lnB0_5, if_neg (by omega), if_neg (by omega)]
  have eX' : (vup (vup (vup (vcp h 5 (l + 1) 5 (l + 2) (a 1504 282 0 - l - 1)) 2 5 (l + 1) (h 2 5 (a 1504 282 0))) 601 (h 2 5 (a 1504 282 0)) 0 0) 602 (h 2 5 (a 1504 282 0)) 0 0) 2 5 l = h 2 5 l := eX
  have sz : lnB0 h l (a 1504 282 0) 601 (h 2 5 l) 0 = a 2 284 l := (vup_k (by decide)).trans ((vup_r ne).trans ((vup_k (by decide)).trans ((vcp_k (by decide)).trans dl.2.1)))
  have sf : lnB0 h l (a 1504 282 0) 601 (h 2 5 (a 1504 282 0)) 0 = 0 := (vup_k (by decide)).trans vup_s
  have e1 := (show vcl mX4_takeAllFrom [(1, h 2 5 (a 1504 282 0)), (1, h 2 5 l), (0, x)] (lnB0 h l (a 1504 282 0)) = _ from rX4_takeAllFrom_0 (shLine_sx lnB0_sx rX.1) (by omega) (by omega) (shLine_sx lnB0_sx rF.1) (by omega) (by omega) (by omega) (by omega))
  rw [sz, sf, if_neg (by omega), if_neg (by omega), if_pos (by omega), show 0 + (a 2 284 l - x) = a 2 284 l - x by omega] at e1
  rw [eX'] at e0
  have s2 : shText (vup (vup (vcp (lnB0 h l (a 1504 282 0)) (h 2 5 l + 1) x (h 2 5 (a 1504 282 0) + 1) 0 (a 2 284 l - x)) 601 (h 2 5 (a 1504 282 0)) 0 (a 2 284 l - x)) 601 (h 2 5 l) 0 x) := shText_sx (sx_tr lnB0_sx (sx_up rfl (sx_up rfl (sx_cp sx_rf)))) c1
  have ec2 : (vup (vup (vcp (lnB0 h l (a 1504 282 0)) (h 2 5 l + 1) x (h 2 5 (a 1504 282 0) + 1) 0 (a 2 284 l - x)) 601 (h 2 5 (a 1504 282 0)) 0 (a 2 284 l - x)) 601 (h 2 5 l) 0 x) 1201 4 0 = a 1504 282 0 := (vup_k (by decide)).trans ((vup_k (by decide)).trans ((vcp_k (by decide)).trans ((lnB0_k (by decide)).trans ec)))
  refine e0.trans ((vret_n e1).trans ((rX10_breakAt_87 s2 (by omega) (by omega)).trans ?_))
  rw [ec2]
  rfl
theorem cTx_B (c5 : cTx h a) (hl : 0 ≤ l ∧ l < a 1504 282 0) (hc : a 1504 282 0 < 60) (hx : 0 ≤ x ∧ x ≤ a 2 284 l) (le : ∀ i, 0 ≤ i → i < 60 → a 2 284 i ≤ 80) : cTx (lnB h l x (a 1504 282 0) (a 2 284 l)) (tB a l x) := by
  obtain ⟨c1, c2, c3, c4, c5⟩ := c5
  have rX := c3 l hl.1 (by omega)
  have rF := c3 (a 1504 282 0) (by omega) hc
  have ll := le l hl.1 (by omega)
  have e5 : ∀ i, lnB h l x (a 1504 282 0) (a 2 284 l) 2 5 i = if i = l + 1 then h 2 5 (a 1504 282 0) else if l + 1 < i ∧ i ≤ a 1504 282 0 then h 2 5 (i - 1) else h 2 5 i := fun i => lnB_5 rF.2.1
  have SX := lnB_sx (h := h) (l := l) (x := x) (c := a 1504 282 0) (n := a 2 284 l)
  -- the old place of a line
  have old : ∀ i, 0 ≤ i → i < 60 → ∃ m, (0 ≤ m ∧ m < 60) ∧ lnB h l x (a 1504 282 0) (a 2 284 l) 2 5 i = h 2 5 m ∧ ((i = l + 1 ∧ m = a 1504 282 0) ∨ (l + 1 < i ∧ i ≤ a 1504 282 0 ∧ m = i - 1) ∨ (¬ i = l + 1 ∧ ¬ (l + 1 < i ∧ i ≤ a 1504 282 0) ∧ m = i)) := fun i u v => by
    rw [e5]
    by_cases z : i = l + 1
    · rw [if_pos z]
      exact ⟨_, ⟨by omega, hc⟩, rfl, Or.inl ⟨z, rfl⟩⟩
    · rw [if_neg z]
      by_cases y : l + 1 < i ∧ i ≤ a 1504 282 0
      · rw [if_pos y]
        exact ⟨_, ⟨by omega, by omega⟩, rfl, Or.inr (Or.inl ⟨y.1, y.2, rfl⟩)⟩
      · rw [if_neg y]
        exact ⟨_, ⟨u, v⟩, rfl, Or.inr (Or.inr ⟨z, y, rfl⟩)⟩
  have inj : ∀ m m2, 0 ≤ m → m < 60 → 0 ≤ m2 → m2 < 60 → ¬ m = m2 → ¬ h 2 5 m = h 2 5 m2 := fun m m2 a1 a2 a3 a4 n e => by
    by_cases y : m < m2
    · exact c4 m m2 a1 y a4 e
    · exact c4 m2 m a3 (by omega) a2 e.symm
  refine ⟨shText_sx SX c1, ⟨?_, by rw [tB_n]; omega⟩, fun i u v => ?_, fun i j u v w => ?_, fun i u v => ?_⟩
  · rw [tB_n]; exact vup_s
  · obtain ⟨m, m1, m2, -⟩ := old i u v
    rw [m2]
    exact ⟨shLine_sx SX (c3 m m1.1 m1.2).1, (c3 m m1.1 m1.2).2⟩
  · obtain ⟨m, m1, m2, m3⟩ := old i u (by omega)
    obtain ⟨k, k1, k2, k3⟩ := old j (by omega) w
    rw [m2, k2]
    exact inj m k m1.1 m1.2 k1.1 k1.2 (by omega)
  · rw [tB_n] at v
    rw [e5]
    by_cases z : i = l + 1
    · rw [if_pos z]
      subst z
      refine ⟨⟨shLine_sx SX rF.1, ?_, fun j s1 t1 => ?_⟩, ?_⟩
      · rw [lnB_z, if_neg (inj _ _ (by omega) hc hl.1 (by omega) (by omega)), if_pos rfl, tB_l, if_neg (by omega), if_pos rfl]
      · rw [tB_l, if_neg (by omega), if_pos rfl] at t1
        rw [lnB_f rX.2.1 s1 t1, tB_s, if_pos (by omega), (c5 l hl.1 hl.2).1.2.2 (x + j) (by omega) (by omega), show 80 * (l + 1) + j - 80 + x = 80 * l + (x + j) by omega]
      · rw [lnB_m, if_pos rfl, tB_m, if_pos rfl]
    · rw [if_neg z]
      have kd : ∀ m, 0 ≤ m → m < a 1504 282 0 → ¬ h 2 5 m + 1 = h 2 5 (a 1504 282 0) + 1 := fun m u v e => inj m _ u (by omega) (by omega) hc (by omega) (by omega)
      by_cases y : l + 1 < i ∧ i ≤ a 1504 282 0
      · rw [if_pos y]
        obtain ⟨⟨d1, d2, d3⟩, d4⟩ := c5 (i - 1) (by omega) (by omega)
        have rI := c3 (i - 1) (by omega) (by omega)
        refine ⟨⟨shLine_sx SX d1, ?_, fun j s1 t1 => ?_⟩, ?_⟩
        · rw [lnB_z, if_neg (inj _ _ (by omega) (by omega) hl.1 (by omega) (by omega)), if_neg (inj _ _ (by omega) (by omega) (by omega) hc (by omega)), tB_l, if_neg (by omega), if_neg z, if_pos y]
          exact d2
        · rw [tB_l, if_neg (by omega), if_neg z, if_pos y] at t1
          have li := le (i - 1) (by omega) (by omega)
          rw [lnB_2 (by omega) (kd _ (by omega) (by omega)), tB_s, if_neg (by omega), if_pos (by omega), d3 j s1 t1, show 80 * (i - 1) + j = 80 * i + j - 80 by omega]
        · rw [lnB_m, if_neg (inj _ _ (by omega) (by omega) (by omega) hc (by omega)), tB_m, if_neg z, if_pos y]
          exact d4
      · rw [if_neg y]
        have il : i ≤ l := by omega
        obtain ⟨⟨d1, d2, d3⟩, d4⟩ := c5 i u (by omega)
        have rI := c3 i u (by omega)
        refine ⟨⟨shLine_sx SX d1, ?_, fun j s1 t1 => ?_⟩, ?_⟩
        · rw [lnB_z, tB_l]
          by_cases w : i = l
          · rw [w, if_pos rfl, if_pos rfl]
          · rw [if_neg (inj _ _ u (by omega) hl.1 (by omega) w), if_neg (inj _ _ u (by omega) (by omega) hc (by omega)), if_neg w, if_neg z, if_neg y]
            exact d2
        · have li := le i u (by omega)
          have t2 : j < a 2 284 i := by
            rw [tB_l] at t1
            by_cases w : i = l
            · rw [if_pos w] at t1
              rw [w]
              omega
            · rw [if_neg w, if_neg z, if_neg y] at t1
              exact t1
          rw [lnB_2 (by omega) (kd _ u (by omega)), tB_s, if_neg (by omega), if_neg (by omega)]
          exact d3 j s1 t2
        · rw [lnB_m, if_neg (inj _ _ u (by omega) (by omega) hc (by omega)), tB_m, if_neg z, if_neg y]
          exact d4
end BK2

