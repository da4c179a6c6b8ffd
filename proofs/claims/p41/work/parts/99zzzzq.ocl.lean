/-! the calls by way of the law's own methods, and what they leave -/
section OCL
variable {h a : vH} {n m p q l x s u v w d f r y c : Int}
theorem O_insert (j : JG n m h a) (hn : 0 ≤ n ∧ n ≤ 9000) (hl : 0 ≤ l ∧ l < a 1504 282 0) (hx : 0 ≤ x ∧ x ≤ a 2 284 l) (hs : sgOk s) (h80 : a 2 284 l < 80) : ∃ h1 a1, vcl mL_on [(1, 3), (0, 0), (0, l), (0, x), (0, s), (0, 0)] h = some (.inl (some (0, a 2 284 l + 1)), h1) ∧ JG (n + 1) (m + 1) h1 a1 ∧ (a1 1504 282 0 = a 1504 282 0 ∧ a1 2 284 l = a 2 284 l + 1 ∧ a1 2 283 (80 * l + x) = s) := by
  have z := j.2.1.1
  obtain ⟨h1, c1, c2⟩ := S_e j (cN_of j.2.2.1 (Cq_insert j.1 z.1.1 z.2.1 hn)) (iP_insert (l := l) (x := x) (s := s) j.2.1 hn)
  have k : kIn a l x s = 0 := kIn_0.mpr ⟨hl, ⟨hx, hs⟩, by omega⟩
  have e : tIn a l x s = tCm (th 0 a) l x s := if_pos k
  rw [if_pos k] at c1
  refine ⟨h1, _, onv (jPL j) (asv_insert (jPL j) c1), c2, ?_, ?_, ?_⟩
  · rw [e]; exact cm_o (by decide)
  · rw [e, cm_l, if_pos rfl]; rfl
  · rw [e, cm_s, if_pos rfl]
theorem S_remove (j : JG n m h a) (hn : 0 ≤ n ∧ n ≤ 9000) (hl : 0 ≤ l ∧ l < a 1504 282 0) (hx : 0 ≤ x ∧ x < a 2 284 l) : ∃ h1 a1, vcl mX12_remove [(1, 3), (0, l), (0, x), (0, x + 1)] h = some (.inl (some (0, a 2 284 l - 1)), h1) ∧ JG (n + 1) (m + 1) h1 a1 ∧ (a1 1504 282 0 = a 1504 282 0 ∧ a1 2 284 l = a 2 284 l - 1) := by
  have z := j.2.1.1
  have N := iG_n6 (a := th 0 a) (iG_tk z.1.1)
  obtain ⟨h1, c1, c2⟩ := S_e j (cN_of j.2.2.1 (Cq_remove j.1 z.1.1 z.2.1 hn j.2.2.1)) (iP_remove (l := l) (f := x) (u := x + 1) j.2.1 hn)
  have k : kRm a l x (x + 1) = 0 := kRm_0.mpr ⟨hl, by omega, by omega⟩
  have e : tRm a l x (x + 1) = tWd (th 0 a) l x (x + 1) := if_pos k
  rw [if_pos k, show a 2 284 l - (x + 1 - x) = a 2 284 l - 1 by omega] at c1
  refine ⟨h1, _, c1, c2, ?_, ?_⟩
  · rw [e]; exact wd_o N (by decide)
  · rw [e, wd_l N, if_pos rfl]
    show a 2 284 l - (x + 1 - x) = _
    omega
theorem O_break (j : JG n m h a) (hn : 0 ≤ n ∧ n ≤ 9000) (hl : 0 ≤ l ∧ l < a 1504 282 0) (hx : 0 ≤ x ∧ x ≤ a 2 284 l) (h60 : a 1504 282 0 < 60) : ∃ h1 a1, vcl mL_on [(1, 3), (0, 1), (0, l), (0, x), (0, 0), (0, 0)] h = some (.inl (some (0, a 1504 282 0 + 1)), h1) ∧ JG (n + 1) (m + 1) h1 a1 ∧ (a1 1504 282 0 = a 1504 282 0 + 1 ∧ a1 2 284 l = x ∧ a1 2 284 (l + 1) = a 2 284 l - x ∧ a1 = tBk (th 0 a) l x) := by
  have z := j.2.1.1
  obtain ⟨h1, c1, c2⟩ := S_e j (cN_of j.2.2.1 (Cq_breakLine j.1 z.1.1 z.2.1 hn)) (iP_breakLine (l := l) (x := x) j.2.1 hn)
  have k : kBl a l x = 0 := kBl_0.mpr ⟨hl, hx, by omega⟩
  have e : tBl a l x = tBk (th 0 a) l x := if_pos k
  rw [if_pos k] at c1
  refine ⟨h1, _, onv (jPL j) (asv_breakLine (jPL j) c1), c2, ?_, ?_, ?_, e⟩
  · rw [e, bk_n]; rfl
  · rw [e, bk_l, if_pos rfl]
  · rw [e, bk_l, if_neg (by omega), if_pos rfl]; rfl
theorem O_join (j : JG n m h a) (hn : 0 ≤ n ∧ n ≤ 9000) (hl : 0 ≤ l ∧ l + 1 < a 1504 282 0) (h80 : a 2 284 l + a 2 284 (l + 1) ≤ 80) : ∃ h1 a1, vcl mL_on [(1, 3), (0, 2), (0, l), (0, 0), (0, 0), (0, 0)] h = some (.inl (some (0, a 2 284 l + a 2 284 (l + 1))), h1) ∧ JG (n + 1) (m + 1) h1 a1 ∧ (a1 1504 282 0 = a 1504 282 0 - 1 ∧ a1 = tJd (th 0 a) l) := by
  have z := j.2.1.1
  have N := iG_n6 (a := th 0 a) (iG_tk z.1.1)
  obtain ⟨h1, c1, c2⟩ := S_e j (cN_of j.2.2.1 (Cq_join j.1 z.1.1 z.2.1 hn j.2.2.1)) (iP_join (l := l) j.2.1 hn)
  have k : kJn a l = 0 := kJn_0.mpr ⟨hl, h80⟩
  have e : tJn a l = tJd (th 0 a) l := if_pos k
  rw [if_pos k] at c1
  refine ⟨h1, _, onv (jPL j) (asv_join (jPL j) c1), c2, ?_, e⟩
  rw [e, jd_n N]; rfl
/-- folds are as before, when a line is broken and joined again -/
theorem bk_Fo {k : Int} (u : 0 ≤ k ∧ k < 24) : tBk a l x 2 302 k = a 2 302 k + (if ¬ (a 2 302 k ≤ l) then 1 else 0) ∧ tBk a l x 2 303 k = a 2 303 k + (if ¬ (a 2 303 k < l) then 1 else 0) := by
  have B : ∀ r, rgF r → tBk a l x 2 r k = gBk l x (tB a l x) r k := fun r hr => (TT_L (Or.inr (Or.inr hr))).trans (if_pos (by omega))
  have o : ∀ r, 302 ≤ r ∧ r ≤ 303 → tB a l x 2 r k = a 2 r k := fun r hr => tB_o (by omega) (by omega)
  refine ⟨?_, ?_⟩
  · rw [B 302 (by unfold rgF; decide)]
    unfold gBk
    rw [if_neg (by decide), if_neg (by decide), if_neg (by decide), if_neg (by decide), if_neg (by decide), if_pos rfl, o 302 (by decide)]
  · rw [B 303 (by unfold rgF; decide)]
    unfold gBk
    rw [if_neg (by decide), if_neg (by decide), if_neg (by decide), if_neg (by decide), if_neg (by decide), if_neg (by decide), if_pos rfl, o 303 (by decide)]
theorem dFk_id : ∀ (k : Nat) (b : vH), (∀ i, 6 * p ≤ i → i < 6 * p + k → ¬ b 2 302 i = b 2 303 i) → dFk p k b = b
  | 0, _, _ => rfl
  | k + 1, b, e => by
    show dFk p k (if b 2 302 (6 * p + k) = b 2 303 (6 * p + k) then dR b p 2 k else b) = b
    rw [if_neg (e (6 * p + k) (by omega) (by omega))]
    exact dFk_id k b (fun i u v => e i u (by omega))
theorem dFn_id {b : vH} (N : cn6 b) (e : ∀ q, 0 ≤ q → q < 4 → ∀ i, 6 * q ≤ i → i < 6 * q + b 2 301 q → ¬ b 2 302 i = b 2 303 i) : ∀ k : Nat, (k : Int) ≤ 4 → dFn k b = b
  | 0, _ => rfl
  | k + 1, hk => by
    show dF (dFn k b) k = b
    rw [dFn_id N e k (by omega)]
    have n := (N k (by omega) (by omega)).2.2
    exact dFk_id _ b (fun i u v => e k (by omega) (by omega) i u (by omega))
theorem bj_inv (x0 : iA a) (hl : 0 ≤ l ∧ l < a 1504 282 0) (h60 : a 1504 282 0 < 60) (hp : 0 ≤ p ∧ p < 4) : mInv (tJd (th 0 (tBk (th 0 a) l x)) l) p l ↔ mInv a p l := by
  have g0 : iG (th 0 a) := iG_tk x0.1
  have N0 := iG_n6 g0
  have o1 : ∀ r i, r = 301 ∨ r = 304 → tBk (th 0 a) l x 2 r i = a 2 r i := fun r i hr => bk_o (by omega) (by omega)
  have f1 := fun (k : Int) (u : 0 ≤ k ∧ k < 24) => bk_Fo (a := th 0 a) (l := l) (x := x) u
  have N1 : cn6 (th 0 (tBk (th 0 a) l x)) := cn6_of (a := th 0 a) (fun q u v => ⟨bk_o (by omega) (by omega), bk_o (by omega) (by omega), bk_o (by omega) (by omega)⟩) N0
  have w1 : ∀ r i, r = 301 ∨ r = 304 → tJw (th 0 (tBk (th 0 a) l x)) l 2 r i = a 2 r i := fun r i hr => (TT_o (by unfold rgL rgS rgV rgF rgC; omega)).trans ((tJ_o (by omega) (by omega)).trans (o1 r i hr))
  have back : ∀ k : Int, 0 ≤ k ∧ k < 24 → tJw (th 0 (tBk (th 0 a) l x)) l 2 302 k = a 2 302 k ∧ tJw (th 0 (tBk (th 0 a) l x)) l 2 303 k = a 2 303 k := by
    intro k u
    have B : ∀ r, rgF r → tJw (th 0 (tBk (th 0 a) l x)) l 2 r k = gJo l (th 0 (tBk (th 0 a) l x) 2 284 l) (tJ (th 0 (tBk (th 0 a) l x)) l) r k := fun r hr => (TT_L (Or.inr (Or.inr hr))).trans (if_pos (by omega))
    have o : ∀ r, 302 ≤ r ∧ r ≤ 303 → tJ (th 0 (tBk (th 0 a) l x)) l 2 r k = tBk (th 0 a) l x 2 r k := fun r hr => tJ_o (by omega) (by omega)
    obtain ⟨q1, q2⟩ := f1 k u
    refine ⟨?_, ?_⟩
    · rw [B 302 (by unfold rgF; decide)]
      unfold gJo
      rw [if_neg (by decide), if_neg (by decide), if_neg (by decide), if_neg (by decide), if_neg (by decide), if_pos rfl, o 302 (by decide), q1]
      show jnL l (a 2 302 k + (if ¬ (a 2 302 k ≤ l) then 1 else 0)) = _
      unfold jnL
      by_cases z : a 2 302 k ≤ l
      · rw [if_neg (fun w => w z), if_neg (by omega)]; omega
      · rw [if_pos z, if_pos (by omega)]; omega
    · rw [B 303 (by unfold rgF; decide)]
      unfold gJo
      rw [if_neg (by decide), if_neg (by decide), if_neg (by decide), if_neg (by decide), if_neg (by decide), if_neg (by decide), if_pos rfl, o 303 (by decide), q2]
      show jnL l (a 2 303 k + (if ¬ (a 2 303 k < l) then 1 else 0)) = _
      unfold jnL
      by_cases z : a 2 303 k < l
      · rw [if_neg (fun w => w z), if_neg (by omega)]; omega
      · rw [if_pos z, if_pos (by omega)]; omega
  have NW : cn6 (tJw (th 0 (tBk (th 0 a) l x)) l) := TT_n6 (tJ_n6 N1)
  have id : tJd (th 0 (tBk (th 0 a) l x)) l = tJw (th 0 (tBk (th 0 a) l x)) l := by
    refine dFn_id NW (fun q u v i s t => ?_) 4 (by decide)
    rw [w1 301 _ (Or.inl rfl)] at t
    have n6 := (N0 q u v).2.2
    have n6 : 0 ≤ a 2 301 q ∧ a 2 301 q ≤ 6 := n6
    obtain ⟨b1, b2⟩ := back i (by omega)
    rw [b1, b2]
    have := (x0.1.2 q u v).1 i s t
    omega
  rw [id]
  have n6 : 0 ≤ a 2 301 p ∧ a 2 301 p ≤ 6 := (N0 p hp.1 hp.2).2.2
  unfold mInv anyI
  rw [w1 301 _ (Or.inl rfl)]
  constructor
  · rintro ⟨k, u, t, k1, k2, k3⟩
    obtain ⟨b1, b2⟩ := back k (by omega)
    rw [w1 304 _ (Or.inr rfl)] at k1
    rw [b1] at k2
    rw [b2] at k3
    exact ⟨k, u, t, k1, k2, k3⟩
  · rintro ⟨k, u, t, k1, k2, k3⟩
    obtain ⟨b1, b2⟩ := back k (by omega)
    refine ⟨k, u, t, ?_, ?_, ?_⟩
    · rw [w1 304 _ (Or.inr rfl)]; exact k1
    · rw [b1]; exact k2
    · rw [b2]; exact k3
end OCL
