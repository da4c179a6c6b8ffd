/-! two lines are joined: the text on both sides -/
def lnJ0 (h : vH) (X Y n m : Int) : vH := vup (vup (vcp h (Y + 1) 0 (X + 1) n m) 601 X 0 (n + m)) 601 Y 0 0
def lnJ1 (h : vH) (X Y n m : Int) : vH := vup (lnJ0 h X Y n m) 602 X 0 (if ¬ (h 602 X 0 = 0) ∨ ¬ (h 602 Y 0 = 0) then 1 else 0)
def lnJ (h : vH) (l c X Y n m : Int) : vH := vup (vup (vcp (lnJ1 h X Y n m) 5 (l + 2) 5 (l + 1) (c - l - 2)) 2 5 (c - 1) Y) 1201 4 0 (c - 1)
section JN3
variable {h h2 a b : vH} {p q P Q X Y l x s f u t j st r l0 x0 n e m c : Int}
theorem tJm_k {k : Nat} {i : Int} (z : ¬ k = 1504) (y : ¬ (k = 2 ∧ (r = 284 ∧ i = l ∨ r = 285 ∧ i = l))) : tJm a l k r i = tJs a l (a 2 284 (l + 1)) k r i := by
  unfold tJm vup
  rw [if_neg (fun w => z w.1), if_neg (fun w => y ⟨w.1, Or.inr w.2⟩), if_neg (fun w => y ⟨w.1, Or.inl w.2⟩)]
theorem tJs_r {k : Nat} {i : Int} (y : ¬ (k = 2 ∧ r = 283)) : tJs a l e k r i = a k r i := if_neg (fun w => y ⟨w.1, w.2.1⟩)
theorem tJ_n : tJ a l 1504 282 0 = a 1504 282 0 - 1 := by
  unfold tJ cpU
  rw [if_neg (by omega), if_neg (by omega), if_neg (by omega)]
  exact vup_s
theorem tJ_o {k : Nat} {r i : Int} (n : ¬ (k = 2 ∧ 283 ≤ r ∧ r ≤ 285)) (m : ¬ (k = 1504 ∧ r = 282)) : tJ a l k r i = a k r i := by
  unfold tJ cpU
  rw [if_neg (by omega), if_neg (by omega), if_neg (by omega)]
  unfold tJm vup tJs
  rw [if_neg (by omega), if_neg (by omega), if_neg (by omega), if_neg (by omega)]
theorem tJ_l {i : Int} : tJ a l 2 284 i = if l + 1 ≤ i ∧ i < a 1504 282 0 - 1 then a 2 284 (i + 1) else if i = l then a 2 284 l + a 2 284 (l + 1) else a 2 284 i := by
  unfold tJ cpU
  rw [if_neg (by omega)]
  by_cases y : l + 1 ≤ i ∧ i < a 1504 282 0 - 1
  · rw [if_pos y, if_pos ⟨rfl, rfl, y⟩, tJm_k (by decide) (by omega), tJs_r (by decide)]
  · rw [if_neg y, if_neg (fun w => y w.2.2), if_neg (by omega)]
    by_cases z : i = l
    · rw [if_pos z, z]
      exact (vup_k (by decide)).trans ((vup_r (by decide)).trans vup_s)
    · rw [if_neg z, tJm_k (by decide) (by omega), tJs_r (by decide)]
theorem tJ_m {i : Int} : tJ a l 2 285 i = if l + 1 ≤ i ∧ i < a 1504 282 0 - 1 then a 2 285 (i + 1) else if i = l then (if ¬ (a 2 285 l = 0) ∨ ¬ (a 2 285 (l + 1) = 0) then 1 else 0) else a 2 285 i := by
  unfold tJ cpU
  by_cases y : l + 1 ≤ i ∧ i < a 1504 282 0 - 1
  · rw [if_pos y, if_pos ⟨rfl, rfl, y⟩, tJm_k (by decide) (by omega), tJs_r (by decide)]
  · rw [if_neg y, if_neg (fun w => y w.2.2), if_neg (by omega), if_neg (by omega)]
    by_cases z : i = l
    · rw [if_pos z, z]
      exact (vup_k (by decide)).trans vup_s
    · rw [if_neg z, tJm_k (by decide) (by omega), tJs_r (by decide)]
theorem tJ_s {i : Int} (h80 : a 2 284 l + a 2 284 (l + 1) ≤ 80) : tJ a l 2 283 i = if 80 * (l + 1) ≤ i ∧ i < 80 * (a 1504 282 0 - 1) then a 2 283 (i + 80) else if 80 * l + a 2 284 l ≤ i ∧ i < 80 * l + a 2 284 l + a 2 284 (l + 1) then a 2 283 (i + 80 - a 2 284 l) else a 2 283 i := by
  unfold tJ cpU
  rw [if_neg (by omega), if_neg (by omega)]
  by_cases y : 80 * (l + 1) ≤ i ∧ i < 80 * (a 1504 282 0 - 1)
  · rw [if_pos y, if_pos ⟨rfl, rfl, y⟩, tJm_k (by decide) (by omega)]
    exact if_neg (by omega)
  · rw [if_neg y, if_neg (fun w => y w.2.2), tJm_k (by decide) (by omega)]
    unfold tJs
    by_cases z : 80 * l + a 2 284 l ≤ i ∧ i < 80 * l + a 2 284 l + a 2 284 (l + 1)
    · rw [if_pos z, if_pos ⟨rfl, rfl, z⟩]
    · rw [if_neg z, if_neg (fun w => z w.2.2)]
theorem tJ_eqTx : eqTx a (tJ a l) := fun k r i n m => tJ_o (by omega) (by omega)
/-- the class's lines -/
theorem lnJ0_sx : sx h (lnJ0 h X Y n m) := sx_up rfl (sx_up rfl (sx_cp sx_rf))
theorem lnJ1_sx : sx h (lnJ1 h X Y n m) := sx_tr lnJ0_sx (sx_up rfl sx_rf)
theorem lnJ_sx : sx h (lnJ h l c X Y n m) := sx_tr lnJ1_sx (sx_up rfl (sx_up rfl (sx_cp sx_rf)))
theorem lnJ1_k {k : Nat} {i : Int} (e : ¬ k = 2 ∧ ¬ k = 601 ∧ ¬ k = 602) : lnJ1 h X Y n m k r i = h k r i := (vup_k e.2.2).trans ((vup_k e.2.1).trans ((vup_k e.2.1).trans (vcp_k e.1)))
theorem lnJ1_2 {i : Int} (e : ¬ r = X + 1) : lnJ1 h X Y n m 2 r i = h 2 r i := (vup_k (by decide)).trans ((vup_k (by decide)).trans ((vup_k (by decide)).trans (vcp_r e)))
theorem lnJ_5 {i : Int} (hX : 6 ≤ X) : lnJ h l c X Y n m 2 5 i = if i = c - 1 then Y else if l + 1 ≤ i ∧ i < c - 1 then h 2 5 (i + 1) else h 2 5 i := by
  refine (vup_k (by decide)).trans ?_
  rw [vup_2]
  by_cases z : i = c - 1
  · rw [if_pos z, if_pos z]
  · rw [if_neg z, if_neg z]
    unfold vcp
    by_cases y : l + 1 ≤ i ∧ i < c - 1
    · rw [if_pos y, if_pos ⟨rfl, rfl, by omega, by omega⟩, show l + 2 + (i - (l + 1)) = i + 1 by omega]
      exact lnJ1_2 (by omega)
    · rw [if_neg y, if_neg (fun w => y (by omega))]
      exact lnJ1_2 (by omega)
theorem lnJ_2 {i : Int} (e : ¬ r = 5) (e2 : ¬ r = X + 1) : lnJ h l c X Y n m 2 r i = h 2 r i := (vup_k (by decide)).trans ((vup_r e).trans ((vcp_r e).trans (lnJ1_2 e2)))
theorem lnJ_f {i : Int} (hX : 6 ≤ X) : lnJ h l c X Y n m 2 (X + 1) i = if n ≤ i ∧ i < n + m then h 2 (Y + 1) (i - n) else h 2 (X + 1) i := by
  refine (vup_k (by decide)).trans ((vup_r (by omega)).trans ((vcp_r (by omega)).trans ((vup_k (by decide)).trans ((vup_k (by decide)).trans ((vup_k (by decide)).trans ?_)))))
  unfold vcp
  by_cases y : n ≤ i ∧ i < n + m
  · rw [if_pos y, if_pos ⟨rfl, rfl, y⟩, Int.zero_add]
  · rw [if_neg y, if_neg (fun w => y w.2.2)]
theorem lnJ_z {r : Int} : lnJ h l c X Y n m 601 r 0 = if r = Y then 0 else if r = X then n + m else h 601 r 0 := by
  refine (vup_k (by decide)).trans ((vup_k (by decide)).trans ((vcp_k (by decide)).trans ((vup_k (by decide)).trans ?_)))
  by_cases z : r = Y
  · rw [if_pos z, z]; exact vup_s
  · rw [if_neg z]
    refine (vup_r z).trans ?_
    by_cases y : r = X
    · rw [if_pos y, y]; exact vup_s
    · rw [if_neg y]
      exact (vup_r y).trans (vcp_k (by decide))
theorem lnJ_m {r : Int} : lnJ h l c X Y n m 602 r 0 = if r = X then (if ¬ (h 602 X 0 = 0) ∨ ¬ (h 602 Y 0 = 0) then 1 else 0) else h 602 r 0 := by
  refine (vup_k (by decide)).trans ((vup_k (by decide)).trans ((vcp_k (by decide)).trans ?_))
  by_cases y : r = X
  · rw [if_pos y, y]; exact vup_s
  · rw [if_neg y]
    exact (vup_r y).trans ((vup_k (by decide)).trans ((vup_k (by decide)).trans (vcp_k (by decide))))
theorem lnJ_tF (hX : 6 ≤ X ∧ X ≤ 124) (hY : 6 ≤ Y ∧ Y ≤ 124) : tF h (lnJ h l c X Y n m) := fun k r i e => by
  unfold lnJ lnJ1 lnJ0 vup vcp
  dsimp only
  rw [if_neg (by omega), if_neg (by omega), if_neg (by omega), if_neg (by omega), if_neg (by omega), if_neg (by omega), if_neg (by omega)]
theorem C_joinBehind (c5 : cTx h a) (hl : 0 ≤ l ∧ l + 1 < a 1504 282 0) (n0 : 0 ≤ a 2 284 l ∧ 0 ≤ a 2 284 (l + 1)) (h80 : a 2 284 l + a 2 284 (l + 1) ≤ 80) : vcl mX10_joinBehind [(1, 4), (0, l)] h = some (.inl none, lnJ h l (a 1504 282 0) (h 2 5 l) (h 2 5 (l + 1)) (a 2 284 l) (a 2 284 (l + 1))) := by
  obtain ⟨c1, c2, c3, c4, c5⟩ := c5
  have ec : h 1201 4 0 = a 1504 282 0 := c2.1
  have c60 := c2.2
  have rX := c3 l hl.1 (by omega)
  have rY := c3 (l + 1) (by omega) (by omega)
  have zX : h 601 (h 2 5 l) 0 = a 2 284 l := (c5 l hl.1 (by omega)).1.2.1
  have zY : h 601 (h 2 5 (l + 1)) 0 = a 2 284 (l + 1) := (c5 (l + 1) (by omega) hl.2).1.2.1
  obtain ⟨t1, t2, t3, t4⟩ := c1
  have e0 := rX10_joinBehind_0 (x1 := l) (h := h) (fun _ => by omega) (fun _ => t1)
  rw [t2] at e0
  have e0 := e0 (fun _ _ _ => t3) (fun _ _ _ => by rw [t4]; omega) (fun _ _ _ => by rw [t4]; omega) (fun _ _ _ => rX.1.1)
  rw [if_neg (by omega), if_neg (by omega), if_pos (by omega)] at e0
  have e1 := (show vcl mX4_takeAllFrom [(1, h 2 5 l), (1, h 2 5 (l + 1)), (0, 0)] h = _ from rX4_takeAllFrom_0 rY.1 (by omega) (by omega) rX.1 (by omega) (by omega) (by omega) (by omega))
  rw [zX, zY, if_neg (by omega), if_neg (by omega), if_pos (by omega), Int.sub_zero] at e1
  have J0 : vup (vup (vcp h (h 2 5 (l + 1) + 1) 0 (h 2 5 l + 1) (a 2 284 l) (a 2 284 (l + 1))) 601 (h 2 5 l) 0 (a 2 284 l + a 2 284 (l + 1))) 601 (h 2 5 (l + 1)) 0 0 = lnJ0 h (h 2 5 l) (h 2 5 (l + 1)) (a 2 284 l) (a 2 284 (l + 1)) := rfl
  rw [J0] at e1
  have mk : ∀ r, lnJ0 h (h 2 5 l) (h 2 5 (l + 1)) (a 2 284 l) (a 2 284 (l + 1)) 602 r 0 = h 602 r 0 := fun r => (vup_k (by decide)).trans ((vup_k (by decide)).trans (vcp_k (by decide)))
  have e2 := rX10_joinBehind_46 (x1 := l) (x2 := h 2 5 l) (x3 := h 2 5 (l + 1)) (h := lnJ0 h (h 2 5 l) (h 2 5 (l + 1)) (a 2 284 l) (a 2 284 (l + 1)))
  rw [mk, mk] at e2
  have J1 : vup (lnJ0 h (h 2 5 l) (h 2 5 (l + 1)) (a 2 284 l) (a 2 284 (l + 1))) 602 (h 2 5 l) 0 (if ¬ (h 602 (h 2 5 l) 0 = 0) ∨ ¬ (h 602 (h 2 5 (l + 1)) 0 = 0) then 1 else 0) = lnJ1 h (h 2 5 l) (h 2 5 (l + 1)) (a 2 284 l) (a 2 284 (l + 1)) := rfl
  rw [J1] at e2
  have sK : sx h (lnJ1 h (h 2 5 l) (h 2 5 (l + 1)) (a 2 284 l) (a 2 284 (l + 1))) := lnJ1_sx
  generalize hJ : lnJ1 h (h 2 5 l) (h 2 5 (l + 1)) (a 2 284 l) (a 2 284 (l + 1)) = J at e2 sK
  have j1 : J 1200 4 0 = 5 := by rw [← hJ]; exact (lnJ1_k (by decide)).trans t2
  have j2 : J 1201 4 0 = a 1504 282 0 := by rw [← hJ]; exact (lnJ1_k (by decide)).trans ec
  have j3 : J 0 4 0 = 31 := by rw [← hJ]; exact (lnJ1_k (by decide)).trans t1
  have j4 : J 0 5 0 = 4 := by rw [← hJ]; exact (lnJ1_k (by decide)).trans t3
  have j5 : J 1 5 0 = 60 := by rw [← hJ]; exact (lnJ1_k (by decide)).trans t4
  have j6 : ∀ r, J 0 r 0 = h 0 r 0 := fun r => by rw [← hJ]; exact lnJ1_k (by decide)
  have j7 : ∀ i, J 2 5 i = h 2 5 i := fun i => by rw [← hJ]; exact lnJ1_2 (by omega)
  have q0 : ∀ r, lnJ0 h (h 2 5 l) (h 2 5 (l + 1)) (a 2 284 l) (a 2 284 (l + 1)) 0 r 0 = h 0 r 0 := fun r => (vup_k (by decide)).trans ((vup_k (by decide)).trans (vcp_k (by decide)))
  rw [j1, j2] at e2
  have k1 : ∀ (k : Nat) (r i sp n dp : Int), ¬ k = 2 → vcp J 5 sp 5 dp n k r i = J k r i := fun k r i sp n dp z => vcp_k z
  rw [k1 1200 _ _ _ _ _ (by decide), k1 1201 _ _ _ _ _ (by decide), j1, j2] at e2
  have k2 : ∀ (H : vH) (r i v : Int), vup H 2 5 i v 1201 4 0 = H 1201 4 0 := fun H r i v => vup_k (by decide)
  rw [k2 _ 0, k1 1201 _ _ _ _ _ (by decide), j2] at e2
  have e3 := e2 (by rw [q0]; exact rX.1.1) (fun _ => by rw [q0]; exact rY.1.1) j3 (by omega) (by omega) (by omega) (by omega) (by omega) (by omega) (by omega) j4 (by omega) (by omega) (by omega) (by rw [j5]; omega) (by rw [j5]; omega) (fun i u v => Or.inr (by rw [j6, j7]; exact (c3 (l + 2 + i) (by omega) (by omega)).1.1)) (by rw [k1 _ _ _ _ _ _ (by decide)]; exact j3) (by omega) (by omega) (by rw [k1 _ _ _ _ _ _ (by decide)]; exact j4) (by rw [k1 _ _ _ _ _ _ (by decide), j6]; exact rY.1.1) (by omega) (by rw [k1 _ _ _ _ _ _ (by decide), j5]; omega) ((vup_k (by decide)).trans ((vcp_k (by decide)).trans j3)) (by omega) (by omega)
  refine (show _ = _ from e0).trans ((vret_n e1).trans (e3.trans ?_))
  rw [← hJ]
  rfl
theorem cTx_J (c5 : cTx h a) (hl : 0 ≤ l ∧ l + 1 < a 1504 282 0) (h80 : a 2 284 l + a 2 284 (l + 1) ≤ 80) (le : ∀ i, 0 ≤ i → i < 60 → 0 ≤ a 2 284 i ∧ a 2 284 i ≤ 80) : cTx (lnJ h l (a 1504 282 0) (h 2 5 l) (h 2 5 (l + 1)) (a 2 284 l) (a 2 284 (l + 1))) (tJ a l) := by
  obtain ⟨c1, c2, c3, c4, c5⟩ := c5
  have c60 := c2.2
  have rX := c3 l hl.1 (by omega)
  have rY := c3 (l + 1) (by omega) (by omega)
  have lX := le l hl.1 (by omega)
  have lY := le (l + 1) (by omega) (by omega)
  have e5 : ∀ i, lnJ h l (a 1504 282 0) (h 2 5 l) (h 2 5 (l + 1)) (a 2 284 l) (a 2 284 (l + 1)) 2 5 i = if i = a 1504 282 0 - 1 then h 2 5 (l + 1) else if l + 1 ≤ i ∧ i < a 1504 282 0 - 1 then h 2 5 (i + 1) else h 2 5 i := fun i => lnJ_5 rX.2.1
  have SX := lnJ_sx (h := h) (l := l) (c := a 1504 282 0) (X := h 2 5 l) (Y := h 2 5 (l + 1)) (n := a 2 284 l) (m := a 2 284 (l + 1))
  have old : ∀ i, 0 ≤ i → i < 60 → ∃ m', (0 ≤ m' ∧ m' < 60) ∧ lnJ h l (a 1504 282 0) (h 2 5 l) (h 2 5 (l + 1)) (a 2 284 l) (a 2 284 (l + 1)) 2 5 i = h 2 5 m' ∧ ((i = a 1504 282 0 - 1 ∧ m' = l + 1) ∨ (l + 1 ≤ i ∧ i < a 1504 282 0 - 1 ∧ m' = i + 1) ∨ (¬ i = a 1504 282 0 - 1 ∧ ¬ (l + 1 ≤ i ∧ i < a 1504 282 0 - 1) ∧ m' = i)) := fun i u v => by
    rw [e5]
    by_cases z : i = a 1504 282 0 - 1
    · rw [if_pos z]
      exact ⟨_, ⟨by omega, by omega⟩, rfl, Or.inl ⟨z, rfl⟩⟩
    · rw [if_neg z]
      by_cases y : l + 1 ≤ i ∧ i < a 1504 282 0 - 1
      · rw [if_pos y]
        exact ⟨_, ⟨by omega, by omega⟩, rfl, Or.inr (Or.inl ⟨y.1, y.2, rfl⟩)⟩
      · rw [if_neg y]
        exact ⟨_, ⟨u, v⟩, rfl, Or.inr (Or.inr ⟨z, y, rfl⟩)⟩
  have inj : ∀ m m2, 0 ≤ m → m < 60 → 0 ≤ m2 → m2 < 60 → ¬ m = m2 → ¬ h 2 5 m = h 2 5 m2 := fun m m2 a1 a2 a3 a4 n e => by
    by_cases y : m < m2
    · exact c4 m m2 a1 y a4 e
    · exact c4 m2 m a3 (by omega) a2 e.symm
  refine ⟨shText_sx SX c1, ⟨?_, by rw [tJ_n]; omega⟩, fun i u v => ?_, fun i j u v w => ?_, fun i u v => ?_⟩
  · rw [tJ_n]; exact vup_s
  · obtain ⟨m, m1, m2, -⟩ := old i u v
    rw [m2]
    exact ⟨shLine_sx SX (c3 m m1.1 m1.2).1, (c3 m m1.1 m1.2).2⟩
  · obtain ⟨m, m1, m2, m3⟩ := old i u (by omega)
    obtain ⟨k, k1, k2, k3⟩ := old j (by omega) w
    rw [m2, k2]
    exact inj m k m1.1 m1.2 k1.1 k1.2 (by omega)
  · rw [tJ_n] at v
    rw [e5, if_neg (by omega)]
    have gen : ∀ m', 0 ≤ m' → m' < a 1504 282 0 → ¬ m' = l → ¬ m' = l + 1 → shLine (lnJ h l (a 1504 282 0) (h 2 5 l) (h 2 5 (l + 1)) (a 2 284 l) (a 2 284 (l + 1))) (h 2 5 m') ∧ lnJ h l (a 1504 282 0) (h 2 5 l) (h 2 5 (l + 1)) (a 2 284 l) (a 2 284 (l + 1)) 601 (h 2 5 m') 0 = a 2 284 m' ∧ (∀ j, 0 ≤ j → j < a 2 284 m' → lnJ h l (a 1504 282 0) (h 2 5 l) (h 2 5 (l + 1)) (a 2 284 l) (a 2 284 (l + 1)) 2 (h 2 5 m' + 1) j = a 2 283 (80 * m' + j)) ∧ lnJ h l (a 1504 282 0) (h 2 5 l) (h 2 5 (l + 1)) (a 2 284 l) (a 2 284 (l + 1)) 602 (h 2 5 m') 0 = a 2 285 m' := fun m' u1 v1 z1 z2 => by
      obtain ⟨⟨d1, d2, d3⟩, d4⟩ := c5 m' u1 v1
      have rI := c3 m' u1 (by omega)
      have i1 := inj m' l u1 (by omega) hl.1 (by omega) z1
      have i2 := inj m' (l + 1) u1 (by omega) (by omega) (by omega) z2
      refine ⟨shLine_sx SX d1, ?_, fun j s1 t1 => ?_, ?_⟩
      · rw [lnJ_z, if_neg i2, if_neg i1]; exact d2
      · rw [lnJ_2 (by omega) (by omega)]; exact d3 j s1 t1
      · rw [lnJ_m, if_neg i1]; exact d4
    by_cases y : l + 1 ≤ i ∧ i < a 1504 282 0 - 1
    · rw [if_pos y]
      obtain ⟨g1, g2, g3, g4⟩ := gen (i + 1) (by omega) (by omega) (by omega) (by omega)
      have li := le (i + 1) (by omega) (by omega)
      refine ⟨⟨g1, by rw [g2, tJ_l, if_pos y], fun j s1 t1 => ?_⟩, by rw [g4, tJ_m, if_pos y]⟩
      rw [tJ_l, if_pos y] at t1
      rw [g3 j s1 t1, tJ_s h80, if_pos (by omega), show 80 * (i + 1) + j = 80 * i + j + 80 by omega]
    · rw [if_neg y]
      by_cases z : i = l
      · rw [z]
        obtain ⟨⟨d1, d2, d3⟩, d4⟩ := c5 l hl.1 (by omega)
        obtain ⟨⟨f1, f2, f3⟩, f4⟩ := c5 (l + 1) (by omega) hl.2
        have nXY := inj l (l + 1) hl.1 (by omega) (by omega) (by omega) (by omega)
        refine ⟨⟨shLine_sx SX d1, ?_, fun j s1 t1 => ?_⟩, ?_⟩
        · rw [lnJ_z, if_neg nXY, if_pos rfl, tJ_l, if_neg (by omega), if_pos rfl]
        · rw [tJ_l, if_neg (by omega), if_pos rfl] at t1
          by_cases w : a 2 284 l ≤ j
          · rw [lnJ_f rX.2.1, if_pos ⟨w, t1⟩, tJ_s h80, if_neg (by omega), if_pos (by omega), f3 (j - a 2 284 l) (by omega) (by omega), show 80 * (l + 1) + (j - a 2 284 l) = 80 * l + j + 80 - a 2 284 l by omega]
          · rw [lnJ_f rX.2.1, if_neg (by omega), tJ_s h80, if_neg (by omega), if_neg (by omega)]
            exact d3 j s1 (by omega)
        · rw [tJ_m, if_neg (show ¬ (l + 1 ≤ l ∧ l < a 1504 282 0 - 1) by omega), if_pos rfl, lnJ_m, if_pos rfl, d4, f4]
      · obtain ⟨g1, g2, g3, g4⟩ := gen i u (by omega) z (by omega)
        have li := le i u (by omega)
        refine ⟨⟨g1, by rw [g2, tJ_l, if_neg y, if_neg z], fun j s1 t1 => ?_⟩, by rw [g4, tJ_m, if_neg y, if_neg z]⟩
        rw [tJ_l, if_neg y, if_neg z] at t1
        rw [g3 j s1 t1, tJ_s h80, if_neg (by omega), if_neg (by omega)]
end JN3

