section MLY
variable {h : vH} {n : Nat} {s : Int → Int} {p l : Int}
theorem lvO_in {s : Int → Int} {B c w : Int} (h : 0 ≤ B) : B ≤ lvO s B c w ∧ lvO s B c w ≤ B + 2 := by
  unfold lvO
  have : (0 : Int) ≤ @ite _ (w = 1 ∧ fig (s c)) (Classical.propDecidable _) 1 0 ∧ (@ite _ (w = 1 ∧ fig (s c)) (Classical.propDecidable _) 1 0 : Int) ≤ 1 := by split <;> omega
  omega
theorem nuL_in {s G : Int → Int} {B : Int} (h : 0 ≤ B) : ∀ (L : List Int) (x j : Int), 0 ≤ nuL s G B x L j ∧ nuL s G B x L j ≤ B + 2
  | [], _, _ => ⟨Int.le_refl _, by show (0 : Int) ≤ B + 2; omega⟩
  | c :: r, x, j => by
    have a := fun w => lvO_in (s := s) (c := c) (w := w) h
    unfold nuL
    split
    · split
      · have := a (if x = nxW G (B % 2) r then x else B % 2); omega
      · exact nuL_in h r x j
    · split
      · have := a (G c); omega
      · exact nuL_in h r (G c) j
theorem lB_in {k : Nat} (hk : k < n) : 0 ≤ lB s n (lI s n k) ∧ lB s n (lI s n k) ≤ 2 * n + 3 := by
  have w0 := wy1_in (s := s) (n := n) (o := -1)
  unfold lB
  rcases lI_in (s := s) (n := n) (k := k) hk with y | y
  · rw [if_pos y]; unfold lB0; omega
  · rw [if_neg (by omega)]
    have q : (((lI s n k).toNat : Nat) : Int) = lI s n k := by omega
    have := lBs_in (s := s) (n := n) n (Nat.le_refl _) (lI s n k).toNat (by omega) (by rw [q]; exact y.2.2.1) (by rw [q]; exact y.2.2.2)
    rw [q] at this
    omega
theorem lL_in {k : Nat} (hk : k < n) : 0 ≤ lL s n k ∧ lL s n k ≤ 2 * n + 5 := by
  have b := lB_in (s := s) hk
  unfold lL sqL
  have := nuL_in (s := s) (G := sqG s (lI s n) (lI s n k) (lB s n (lI s n k) % 2) (Ch (lI s n) (lI s n k) n 0)) b.1 (Ch (lI s n) (lI s n k) n 0) (lB s n (lI s n k) % 2) k
  omega
theorem rWd_in {W st c k : Int} (hc : 0 ≤ c) : 0 ≤ rWd s n W st c k ∧ rWd s n W st c k ≤ 4 := by
  unfold rWd
  split
  · have := rPos_ge (s := s) (k - st).toNat st c hc
    have := wd_le (g := s k) (x := rPos s (k - st).toNat st c) (by omega)
    omega
  · omega
/-- the column in which a row begins -/
def cI (d : Int) (j : Nat) : Int := if j = 0 then 0 else d
end MLY

