/-! columns are small -/
def smI (g : Int → Int) (a : Int) : Nat → Int
  | 0 => 0
  | k + 1 => smI g a k + g (a + k)
theorem smI_up {g : Int → Int} {a q v : Int} : ∀ N : Nat, smI (fun j => if j = q then v else g j) a N = smI g a N + (if a ≤ q ∧ q < a + N then v - g q else 0)
  | 0 => by
    rw [if_neg (by omega)]
    rfl
  | N + 1 => by
    have ih := smI_up (g := g) (a := a) (q := q) (v := v) N
    show smI (fun j => if j = q then v else g j) a N + (if a + (N : Int) = q then v else g (a + N)) = smI g a N + g (a + N) + _
    rw [ih]
    by_cases z : a + (N : Int) = q
    · rw [if_pos z, if_neg (by omega), if_pos (by omega), z]
      omega
    · rw [if_neg z]
      by_cases y : a ≤ q ∧ q < a + N
      · rw [if_pos y, if_pos (by omega)]
        omega
      · rw [if_neg y, if_neg (by omega)]
        omega
theorem smI_eq {g g2 : Int → Int} {a : Int} : ∀ N : Nat, (∀ i, a ≤ i → i < a + N → g2 i = g i) → smI g2 a N = smI g a N
  | 0, _ => rfl
  | N + 1, e => by
    show smI g2 a N + g2 (a + N) = smI g a N + g (a + N)
    rw [smI_eq N (fun i u v => e i u (by omega)), e (a + N) (by omega) (by omega)]
theorem smI_sw {w sc : Int → Int} {a x y : Int} {N : Nat} (hx : a ≤ x) (xy : x < y) (hy : y < a + N) : smI (fun j => w ((fun j => if j = y then sc x else if j = x then sc y else sc j) j)) a N = smI (fun j => w (sc j)) a N := by
  have e : (fun j => w ((fun j => if j = y then sc x else if j = x then sc y else sc j) j)) = (fun j => if j = y then w (sc x) else (fun j => if j = x then w (sc y) else (fun j => w (sc j)) j) j) := by
    funext j
    dsimp only
    split
    · rfl
    · split <;> rfl
  rw [e, smI_up, smI_up, if_pos (by omega), if_pos (by omega), if_neg (by omega)]
  dsimp only
  omega
theorem smI_trn {w : Int → Int} {a : Int} {N : Nat} : ∀ (f : Nat) (sc : Int → Int) (x y : Int), a ≤ x → y < a + N → smI (fun j => w (trn f sc x y j)) a N = smI (fun j => w (sc j)) a N
  | 0, _, _, _, _, _ => rfl
  | f + 1, sc, x, y, hx, hy => by
    unfold trn
    by_cases c : y ≤ x
    · rw [if_pos c]
    · rw [if_neg c, smI_trn f _ (x + 1) (y - 1) (by omega) (by omega)]
      exact smI_sw hx (by omega) hy
theorem smI_psR {w lv : Int → Int} {l a t : Int} {N : Nat} (et : t = a + N) : ∀ (f : Nat) (sc : Int → Int) (k : Int), a ≤ k → smI (fun j => w (psR lv l t f sc k j)) a N = smI (fun j => w (sc j)) a N
  | 0, _, _, _ => rfl
  | f + 1, sc, k, hk => by
    have e := enR_in (lv := lv) (sc := sc) (l := l) (t := t) 140 k
    unfold psR
    by_cases c : t ≤ k
    · rw [if_pos c]
    · rw [if_neg c, smI_psR et f _ _ (by omega), smI_trn 140 sc k _ hk (by omega)]
theorem smI_orR {w lv : Int → Int} {a t : Int} {N : Nat} (et : t = a + N) : ∀ (l : Nat) (sc : Int → Int), smI (fun j => w (orR lv a t l sc j)) a N = smI (fun j => w (sc j)) a N
  | 0, _ => rfl
  | l + 1, sc => by
    unfold orR
    rw [smI_orR et l _, smI_psR et 140 sc a (Int.le_refl _)]
theorem smI_oSc {w s lv : Int → Int} {base a t : Int} {N : Nat} (et : t = a + N) : smI (fun j => w (oSc s lv base a t j)) a N = smI w a N := smI_orR et _ _
theorem smI_mo {g : Int → Int} {a : Int} : ∀ (f m : Nat), (∀ i, a ≤ i → i < a + (m + f : Nat) → 0 ≤ g i) → smI g a m ≤ smI g a (m + f)
  | 0, m, _ => Int.le_refl _
  | f + 1, m, e => by
    have ih := smI_mo (g := g) (a := a) f m (fun i u v => e i u (by omega))
    have q := e (a + ((m + f : Nat) : Int)) (by omega) (by omega)
    show smI g a m ≤ smI g a (m + f) + g (a + ((m + f : Nat) : Int))
    omega
section COL
variable {s : Int → Int} {n : Nat} {W d : Int} {R : Nat}
theorem rPos_sn : ∀ (m : Nat) (k x : Int), rPos s (m + 1) k x = rPos s m k x + wd (s (k + m)) (rPos s m k x)
  | 0, k, x => by
    show x + wd (s k) x = x + wd (s (k + ((0 : Nat) : Int))) x
    rw [show k + ((0 : Nat) : Int) = k by omega]
  | m + 1, k, x => by
    have ih := rPos_sn m (k + 1) (x + wd (s k) x)
    show rPos s (m + 1) (k + 1) (x + wd (s k) x) = rPos s m (k + 1) (x + wd (s k) x) + wd (s (k + ((m + 1 : Nat) : Int))) (rPos s m (k + 1) (x + wd (s k) x))
    rw [ih, show k + 1 + (m : Int) = k + ((m + 1 : Nat) : Int) by omega]
theorem rFit_pos : ∀ (f : Nat) (k x : Int) (m : Nat), k + m < rFit s n W f k x → rPos s (m + 1) k x ≤ W
  | 0, k, x, m, h => absurd h (by show ¬ (k + (m : Int) < k); omega)
  | f + 1, k, x, m, h => by
    unfold rFit at h
    by_cases c1 : (n : Int) ≤ k
    · rw [if_pos c1] at h; omega
    · rw [if_neg c1] at h
      by_cases c2 : W < x + wd (s k) x
      · rw [if_pos c2] at h; omega
      · rw [if_neg c2] at h
        cases m with
        | zero => show x + wd (s k) x ≤ W; omega
        | succ m => exact rFit_pos f (k + 1) (x + wd (s k) x) m (by omega)
theorem rWd_sum {a c : Int} (hc : 0 ≤ c) (cW : c ≤ W) : ∀ N : Nat, c + smI (rWd s n W a c) a N ≤ W ∧ (a + (N : Int) ≤ rE s n W a c → c + smI (rWd s n W a c) a N = rPos s N a c)
  | 0 => ⟨by show c + 0 ≤ W; omega, fun _ => by show c + 0 = c; omega⟩
  | N + 1 => by
    obtain ⟨i1, i2⟩ := rWd_sum (a := a) hc cW N
    by_cases z : a + (N : Int) < rE s n W a c
    · have q := i2 (by omega)
      have w : rWd s n W a c (a + N) = wd (s (a + N)) (rPos s N a c) := by
        unfold rWd
        rw [if_pos z, show (a + (N : Int) - a).toNat = N by omega]
      have p := rPos_sn (s := s) N a c
      have e : c + smI (rWd s n W a c) a (N + 1) = rPos s (N + 1) a c := by
        show c + (smI (rWd s n W a c) a N + rWd s n W a c (a + N)) = _
        rw [w, p]
        omega
      have l : rPos s (N + 1) a c ≤ W := rFit_pos 140 a c N z
      exact ⟨by omega, fun _ => e⟩
    · have w : rWd s n W a c (a + N) = 0 := if_neg z
      refine ⟨?_, fun h => absurd h (by omega)⟩
      show c + (smI (rWd s n W a c) a N + rWd s n W a c (a + N)) ≤ W
      omega
/-- a column and the width behind it lie in the pane -/
theorem lC_sm (hd : 0 ≤ d ∧ d ≤ 4) (hW : 10 ≤ W) (r : isR s n W d R) (h131 : R ≤ 131) (n131 : n ≤ 131) {c : Int} (h0 : 0 ≤ c) (hc : c < n) : 0 ≤ lC s n W d c ∧ 0 ≤ lW s n W d c ∧ lW s n W d c ≤ 4 ∧ lC s n W d c + lW s n W d c ≤ W := by
  obtain ⟨q1, q2, q3⟩ := rowO_in hd hW r h131 h0 hc
  obtain ⟨f1, f2, f3, f4, f5, f6⟩ := row_f hd hW r h131 (rowO s n W d c)
  have b := lC_in hd hW r h131 n131 h0 hc
  have p0 := rSt_in (s := s) (n := n) (W := W) (d := d) (by omega) hd hW (rowO s n W d c)
  have p1 := rSt_in (s := s) (n := n) (W := W) (d := d) (by omega) hd hW (rowO s n W d c + 1)
  have c0 : 0 ≤ cI d (rowO s n W d c) ∧ cI d (rowO s n W d c) ≤ 4 := by unfold cI; split <;> omega
  have ro : ∀ {k}, rSt s n W d (rowO s n W d c) ≤ k → k < rSt s n W d (rowO s n W d c + 1) → rowO s n W d k = rowO s n W d c := fun u v => rowO_eq hd hW r h131 u v
  -- widths along the screen
  have key : ∀ m : Nat, rSt s n W d (rowO s n W d c) + m < rSt s n W d (rowO s n W d c + 1) → lC s n W d (lS s n W d (rSt s n W d (rowO s n W d c) + m)) = cI d (rowO s n W d c) + smI (fun k => lW s n W d (lS s n W d k)) (rSt s n W d (rowO s n W d c)) m := by
    intro m
    induction m with
    | zero =>
      intro h
      rw [show rSt s n W d (rowO s n W d c) + ((0 : Nat) : Int) = rSt s n W d (rowO s n W d c) by omega, f3 (by omega)]
      exact (Int.add_zero _).symm
    | succ m ih =>
      intro h
      have a := ih (by omega)
      have e := f2 (rSt s n W d (rowO s n W d c) + m) (by omega) (by omega)
      rw [show rSt s n W d (rowO s n W d c) + ((m + 1 : Nat) : Int) = rSt s n W d (rowO s n W d c) + m + 1 by omega, e, a]
      show _ = cI d (rowO s n W d c) + (smI (fun k => lW s n W d (lS s n W d k)) (rSt s n W d (rowO s n W d c)) m + lW s n W d (lS s n W d (rSt s n W d (rowO s n W d c) + m)))
      omega
  obtain ⟨k, k1, k2, k3⟩ := f6 c q2 q3
  have em : rSt s n W d (rowO s n W d c) + ((k - rSt s n W d (rowO s n W d c)).toNat : Int) = k := by omega
  have kk := key (k - rSt s n W d (rowO s n W d c)).toNat (by omega)
  rw [em, k3] at kk
  have eN : rSt s n W d (rowO s n W d c + 1) = rSt s n W d (rowO s n W d c) + ((rSt s n W d (rowO s n W d c + 1) - rSt s n W d (rowO s n W d c)).toNat : Nat) := by omega
  have w0 : ∀ i, rSt s n W d (rowO s n W d c) ≤ i → i < rSt s n W d (rowO s n W d c + 1) → 0 ≤ lW s n W d (lS s n W d i) := fun i u v => by
    obtain ⟨a1, a2⟩ := f1 i u v
    exact (f4 _ a1 a2).1
  have s1 : smI (fun k => lW s n W d (lS s n W d k)) (rSt s n W d (rowO s n W d c)) (k - rSt s n W d (rowO s n W d c)).toNat + lW s n W d c = smI (fun k => lW s n W d (lS s n W d k)) (rSt s n W d (rowO s n W d c)) ((k - rSt s n W d (rowO s n W d c)).toNat + 1) := by
    show _ = smI (fun k => lW s n W d (lS s n W d k)) (rSt s n W d (rowO s n W d c)) (k - rSt s n W d (rowO s n W d c)).toNat + lW s n W d (lS s n W d (rSt s n W d (rowO s n W d c) + ((k - rSt s n W d (rowO s n W d c)).toNat : Int)))
    rw [em, k3]
  have s2 := smI_mo (g := fun k => lW s n W d (lS s n W d k)) (a := rSt s n W d (rowO s n W d c)) ((rSt s n W d (rowO s n W d c + 1) - rSt s n W d (rowO s n W d c)).toNat - ((k - rSt s n W d (rowO s n W d c)).toNat + 1)) ((k - rSt s n W d (rowO s n W d c)).toNat + 1) (fun i u v => w0 i u (by omega))
  rw [show (k - rSt s n W d (rowO s n W d c)).toNat + 1 + ((rSt s n W d (rowO s n W d c + 1) - rSt s n W d (rowO s n W d c)).toNat - ((k - rSt s n W d (rowO s n W d c)).toNat + 1)) = (rSt s n W d (rowO s n W d c + 1) - rSt s n W d (rowO s n W d c)).toNat by omega] at s2
  have s3 : smI (fun k => lW s n W d (lS s n W d k)) (rSt s n W d (rowO s n W d c)) (rSt s n W d (rowO s n W d c + 1) - rSt s n W d (rowO s n W d c)).toNat = smI (rWd s n W (rSt s n W d (rowO s n W d c)) (cI d (rowO s n W d c))) (rSt s n W d (rowO s n W d c)) (rSt s n W d (rowO s n W d c + 1) - rSt s n W d (rowO s n W d c)).toNat := by
    rw [← smI_oSc (w := rWd s n W (rSt s n W d (rowO s n W d c)) (cI d (rowO s n W d c))) (s := s) (lv := lL s n) (base := lB0 s n) eN]
    refine smI_eq _ (fun i u v => ?_)
    obtain ⟨a1, a2⟩ := f1 i u (by omega)
    have e1 : lS s n W d i = oSc s (lL s n) (lB0 s n) (rSt s n W d (rowO s n W d c)) (rSt s n W d (rowO s n W d c + 1)) i := by
      unfold lS
      rw [ro u (by omega)]
    show lW s n W d (lS s n W d i) = rWd s n W (rSt s n W d (rowO s n W d c)) (cI d (rowO s n W d c)) (oSc s (lL s n) (lB0 s n) (rSt s n W d (rowO s n W d c)) (rSt s n W d (rowO s n W d c + 1)) i)
    rw [← e1]
    unfold lW
    rw [ro a1 a2]
  have s4 := (rWd_sum (s := s) (n := n) (W := W) (a := rSt s n W d (rowO s n W d c)) c0.1 (by omega) (rSt s n W d (rowO s n W d c + 1) - rSt s n W d (rowO s n W d c)).toNat).1
  exact ⟨b.1, b.2.2.1, b.2.2.2, by omega⟩
end COL

