/-! THE PROPERTY OF ITS OWN: what holds between two calls (h the class's heap, a what it tells, kept beside it) -/
theorem sHt_tot {op wt ls lk : Int → Int} (b : stB op wt ls lk) (ho : ∃ p, 0 ≤ p ∧ p < 4 ∧ ¬ op p = 0) (room : sSm (sN op ls lk) 4 ≤ 24) : sSm (sHt op wt ls lk) 4 = 24 ∧ ∀ p, 0 ≤ p → p < 4 → op p = 0 → sHt op wt ls lk p = 0 := by
  obtain ⟨t1, t2, t3, t4⟩ := sTf_in (op := op) (ls := ls) (lk := lk) 24 (sF3 op wt lk) (sF3_ex b)
  have eT : sTf op ls lk 24 (sF3 op wt lk) = sHt op wt ls lk := rfl
  rw [eT] at t1 t2 t3 t4
  have f1 := sSm_le (g := sF1 op lk) (g2 := sN op ls lk) (fun i u v => (sF1_N b u v).1)
  have eR : sRe op lk = 24 - sSm (sF1 op lk) 4 := by
    unfold sRe
    split <;> omega
  have l4 := sLf_4 b ho
  have gs := (sG_sm b 4 (Nat.le_refl _)).1
  have e0 : sLf op wt lk 0 = sRe op lk - sSm (sQ op wt lk) 4 := rfl
  have f3 : ∀ i, 0 ≤ i → i < 4 → sF3 op wt lk i = sF1 op lk i + sQ op wt lk i + sG op wt lk i := fun i u v => by
    have := (sF2_in b u v).2.2
    have e3 : sF3 op wt lk i = sF2 op wt lk i + sG op wt lk i := rfl
    omega
  refine ⟨?_, fun p u v w => ?_⟩
  · rw [t2, sSm_4, f3 0 (by omega) (by omega), f3 1 (by omega) (by omega), f3 2 (by omega) (by omega), f3 3 (by omega) (by omega)]
    have a1 := sSm_4 (g := sF1 op lk)
    have a2 := sSm_4 (g := sQ op wt lk)
    have a3 := sSm_4 (g := sG op wt lk)
    omega
  · have sh := (sSh_s (op := op) (lk := lk) p).2 w
    rw [t1 p sh, f3 p u v]
    have z1 : sF1 op lk p = 0 := by unfold sF1; rw [if_pos w]
    have z2 : sQ op wt lk p = 0 := by unfold sQ; rw [if_pos w]
    have z3 : sG op wt lk p = 0 := by unfold sG; rw [if_pos w]
    omega
/-- closed panes have no rows, and all rows are dealt -/
def iS (a : vH) : Prop := (∀ p, 0 ≤ p → p < 4 → a 2 289 p = 0 → a 2 310 p = 0) ∧ a 2 310 0 + a 2 310 1 + a 2 310 2 + a 2 310 3 = 24
/-- the signs of the text are signs -/
def iSg (a : vH) : Prop := ∀ l x, 0 ≤ l → l < a 1504 282 0 → 0 ≤ x → x < a 2 284 l → sgOk (a 2 283 (80 * l + x))
def iP (n : Int) (a : vH) : Prop := iN n a ∧ iS a ∧ iSg a
/-- the script -/
def sC (h : vH) : Prop := h 0 2 0 = 11 ∧ (0 ≤ h 1 2 0 ∧ h 1 2 0 ≤ 260) ∧ ∀ i, 0 ≤ i → i < h 1 2 0 → c32 (h 2 2 i)
theorem sC_of {h h1 : vH} (e : ∀ (k : Nat) (i : Int), h1 k 2 i = h k 2 i) (c : sC h) : sC h1 := by
  unfold sC
  rw [e, e]
  exact ⟨c.1, c.2.1, fun i u v => by rw [e]; exact c.2.2 i u v⟩
def JG (n m : Int) (h a : vH) : Prop := cAll h a ∧ iP n a ∧ iD h ∧ h 4 0 0 ≤ 300 + 4 * m ∧ h 5 0 0 ≤ 60000 + 40 * m ∧ sC h
section PJG
variable {h a b : vH} {n m p q l x s u v w d f : Int}
theorem iS_of (e1 : ∀ i, b 2 289 i = a 2 289 i) (e2 : ∀ i, b 2 310 i = a 2 310 i) (i : iS a) : iS b := by
  refine ⟨fun p u v => ?_, ?_⟩
  · rw [e1, e2]; exact i.1 p u v
  · rw [e2, e2, e2, e2]; exact i.2
theorem iSg_of (e1 : b 1504 282 0 = a 1504 282 0) (e2 : ∀ i, b 2 284 i = a 2 284 i) (e3 : ∀ i, b 2 283 i = a 2 283 i) (i : iSg a) : iSg b := fun l x u v w z => by
  rw [e1] at v
  rw [e2] at z
  rw [e3]
  exact i l x u v w z
theorem iS_st {op wt ls lk : Int → Int} (bb : stB op wt ls lk) (ho : ∃ p, 0 ≤ p ∧ p < 4 ∧ ¬ op p = 0) (room : sSm (sN op ls lk) 4 ≤ 24) : iS (tSt a op wt ls lk) := by
  have t := sHt_tot bb ho room
  have R := fun (q : Int) (u : 0 ≤ q ∧ q < 4) => st_r (a := a) (op := op) (wt := wt) (ls := ls) (lk := lk) u
  refine ⟨fun p u v z => ?_, ?_⟩
  · obtain ⟨r1, -, -, -, r5⟩ := R p ⟨u, v⟩
    rw [r1] at z
    rw [r5]
    exact t.2 p u v z
  · rw [(R 0 (by decide)).2.2.2.2, (R 1 (by decide)).2.2.2.2, (R 2 (by decide)).2.2.2.2, (R 3 (by decide)).2.2.2.2, ← sSm_4]
    exact t.1
theorem iSg_cm (i : iSg a) (hs : sgOk s) (hl : 0 ≤ l ∧ l < a 1504 282 0) (hx : 0 ≤ x ∧ x ≤ a 2 284 l) (h80 : a 2 284 l < 80) (g : iG a) : iSg (tCm a l x s) := fun k y u v w z => by
  have gl := g.1.2.1
  have gn := g.1.2.2.1
  rw [cm_o (k := 1504) (by decide)] at v
  rw [cm_l] at z
  rw [cm_s]
  have gm := gn k u (by omega)
  have g0 := gn l hl.1 (by omega)
  by_cases c : k = l
  · rw [if_pos c] at z
    rw [c]
    by_cases c1 : 80 * l + y = 80 * l + x
    · rw [if_pos c1]; exact hs
    · rw [if_neg c1]
      by_cases c2 : 80 * l + x < 80 * l + y ∧ 80 * l + y ≤ 80 * l + a 2 284 l
      · rw [if_pos c2, show 80 * l + y - 1 = 80 * l + (y - 1) by omega]
        exact i l (y - 1) hl.1 hl.2 (by omega) (by omega)
      · rw [if_neg c2]
        exact i l y hl.1 hl.2 w (by omega)
  · rw [if_neg c] at z
    by_cases c1 : 80 * k + y = 80 * l + x
    · rw [if_pos c1]; exact hs
    · rw [if_neg c1]
      by_cases c2 : 80 * l + x < 80 * k + y ∧ 80 * k + y ≤ 80 * l + a 2 284 l
      · exact absurd c2 (by omega)
      · rw [if_neg c2]
        exact i k y u v w z
theorem iSg_wd (i : iSg a) (g : iG a) (hl : 0 ≤ l ∧ l < a 1504 282 0) (hf : 0 ≤ f ∧ f < u) (hu : u ≤ a 2 284 l) : iSg (tWd a l f u) := fun m y v w z1 z2 => by
  have N := iG_n6 g
  have gl := g.1.2.1
  have ll := g.1.2.2.1 l hl.1 (by omega)
  rw [wd_o N (k := 1504) (by decide)] at w
  rw [wd_l N] at z2
  rw [wd_s N]
  have gm := g.1.2.2.1 m v (by omega)
  by_cases c : m = l
  · rw [if_pos c] at z2
    rw [c]
    by_cases c1 : f ≤ y
    · rw [if_pos (by omega), show 80 * l + y + u - f = 80 * l + (y + u - f) by omega]
      exact i l (y + u - f) hl.1 hl.2 (by omega) (by omega)
    · rw [if_neg (by omega)]
      exact i l y hl.1 hl.2 z1 (by omega)
  · rw [if_neg c] at z2
    rw [if_neg (by omega)]
    exact i m y v w z1 z2
theorem iSg_bk (i7 : iSg a) (g : iG a) (hl : 0 ≤ l ∧ l < a 1504 282 0) (hc : a 1504 282 0 < 60) (hx : 0 ≤ x ∧ x ≤ a 2 284 l) : iSg (tBk a l x) := fun m y u v w z => by
  have gl := g.1.2.1
  have gn := g.1.2.2.1
  have ll := gn l hl.1 (by omega)
  rw [bk_n] at v
  rw [bk_l] at z
  rw [bk_s]
  by_cases c1 : m = l
  · rw [if_pos c1] at z
    rw [if_neg (by omega), if_neg (by omega)]
    exact i7 m y u (by omega) w (by rw [c1]; omega)
  · rw [if_neg c1] at z
    by_cases c2 : m = l + 1
    · rw [if_pos c2] at z
      rw [if_pos (by omega), show 80 * m + y - 80 + x = 80 * l + (x + y) by omega]
      exact i7 l (x + y) hl.1 hl.2 (by omega) (by omega)
    · rw [if_neg c2] at z
      by_cases c3 : l + 1 < m ∧ m ≤ a 1504 282 0
      · rw [if_pos c3] at z
        have gm := gn (m - 1) (by omega) (by omega)
        rw [if_neg (by omega), if_pos (by omega), show 80 * m + y - 80 = 80 * (m - 1) + y by omega]
        exact i7 (m - 1) y (by omega) (by omega) w z
      · rw [if_neg c3] at z
        have gm := gn m u (by omega)
        rw [if_neg (by omega), if_neg (by omega)]
        exact i7 m y u (by omega) w z
theorem iSg_jd (i : iSg a) (g : iG a) (hl : 0 ≤ l ∧ l + 1 < a 1504 282 0) (h80 : a 2 284 l + a 2 284 (l + 1) ≤ 80) : iSg (tJd a l) := fun m y v w z1 z2 => by
  have N := iG_n6 g
  have gl := g.1.2.1
  have lX := g.1.2.2.1 l hl.1 (by omega)
  have lY := g.1.2.2.1 (l + 1) (by omega) (by omega)
  rw [jd_n N] at w
  rw [jd_l N] at z2
  rw [jd_s N h80]
  have gm := g.1.2.2.1 m v (by omega)
  by_cases c : l + 1 ≤ m ∧ m < a 1504 282 0 - 1
  · rw [if_pos c] at z2
    have gm2 := g.1.2.2.1 (m + 1) (by omega) (by omega)
    rw [if_pos (by omega), show 80 * m + y + 80 = 80 * (m + 1) + y by omega]
    exact i (m + 1) y (by omega) (by omega) z1 z2
  · rw [if_neg c] at z2
    rw [if_neg (by split at z2 <;> omega)]
    by_cases c2 : m = l
    · rw [if_pos c2] at z2
      rw [c2]
      by_cases c1 : a 2 284 l ≤ y
      · rw [if_pos (by omega), show 80 * l + y + 80 - a 2 284 l = 80 * (l + 1) + (y - a 2 284 l) by omega]
        exact i (l + 1) (y - a 2 284 l) (by omega) hl.2 (by omega) (by omega)
      · rw [if_neg (by omega)]
        exact i l y hl.1 (by omega) z1 (by omega)
    · rw [if_neg c2] at z2
      rw [if_neg (by omega)]
      exact i m y v (by omega) z1 z2
/-- what was thrown doesn't matter -/
theorem iS_th {k : Int} (i : iS a) : iS (th k a) := i
theorem iSg_th {k : Int} (i : iSg a) : iSg (th k a) := i
end PJG
