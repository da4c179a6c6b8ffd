/-! a box of places: a sign comes at each -/
/-- how many of the first k places stand before one in its line -/
def bA (B : bxT) (i : Int) : Nat → Int
  | 0 => 0
  | k + 1 => bA B i k + (if B.2.1 k = B.2.1 i ∧ B.2.2 k < B.2.2 i then 1 else 0)
noncomputable def tXs (a : vH) (B : bxT) (s : Int) : Nat → vH
  | 0 => a
  | k + 1 => tCm (tXs a B s k) (B.2.1 k) (B.2.2 k + bA B k k) s
section BO2
variable {h h1 h2 a b : vH} {p P l x s n r c i j : Int} {B : bxT}
theorem bA_b : ∀ (k : Nat), 0 ≤ bA B i k ∧ bA B i k ≤ bC B.2.1 (B.2.1 i) k
  | 0 => ⟨Int.le_refl _, Int.le_refl _⟩
  | k + 1 => by
    have ih := bA_b k
    unfold bA bC
    by_cases z : B.2.1 (k : Int) = B.2.1 i
    · rw [if_pos z]
      split <;> omega
    · rw [if_neg z, if_neg (fun w => z w.1)]
      omega
theorem bA_m (e : B.2.1 i = B.2.1 j) (m : B.2.2 i < B.2.2 j) : ∀ (k : Nat), bA B i k ≤ bA B j k
  | 0 => Int.le_refl _
  | k + 1 => by
    have ih := bA_m e m k
    unfold bA
    by_cases z : B.2.1 (k : Int) = B.2.1 i ∧ B.2.2 (k : Int) < B.2.2 i
    · rw [if_pos z, if_pos ⟨z.1.trans e, by omega⟩]
      omega
    · rw [if_neg z]
      split <;> omega
theorem bC_m {L : Int → Int} : ∀ (f k : Nat), bC L l k ≤ bC L l (k + f)
  | 0, k => Int.le_refl _
  | f + 1, k => by
    have ih := bC_m (L := L) f k
    show bC L l k ≤ bC L l (k + f) + (if L ((k + f : Nat) : Int) = l then 1 else 0)
    split <;> omega
theorem bC_lt {L : Int → Int} {k N : Nat} (hk : k < N) (e : L k = l) : bC L l k + 1 ≤ bC L l N := by
  have q := bC_m (L := L) (l := l) (N - (k + 1)) (k + 1)
  have q2 : bC L l (k + 1) = bC L l k + 1 := by
    show bC L l k + (if L (k : Int) = l then 1 else 0) = _
    rw [if_pos e]
  rw [show k + 1 + (N - (k + 1)) = N by omega] at q
  omega
/-- what holds when k signs have come -/
theorem xs_all (x0 : iA a) (V : iV n a) (hn : 0 ≤ n) (hs : sgOk s) (o : okB a B) (rm : room a B) : ∀ (k : Nat), (k : Int) ≤ B.1 → iA (tXs a B s k) ∧ iV n (tXs a B s k) ∧ tXs a B s k 1504 282 0 = a 1504 282 0 ∧ (∀ l, tXs a B s k 2 284 l = a 2 284 l + bC B.2.1 l k) ∧ tXs a B s k 1500 282 0 = a 1500 282 0 ∧ rZ a (tXs a B s k)
  | 0, _ => ⟨x0, V, rfl, fun l => (Int.add_zero _).symm, rfl, rZ_rf⟩
  | k + 1, hk => by
    obtain ⟨x1, V1, e1, e2, e3, e4⟩ := xs_all x0 V hn hs o rm k (by omega)
    obtain ⟨o1, o2, o3⟩ := o
    have P := o2 k (by omega) (by omega)
    have P1 : 0 ≤ B.2.1 k ∧ B.2.1 k < a 1504 282 0 := P.1
    have P2 : 0 ≤ B.2.2 k ∧ B.2.2 k ≤ a 2 284 (B.2.1 k) := P.2
    have R : a 2 284 (B.2.1 k) + bC B.2.1 (B.2.1 k) B.1.toNat ≤ 80 := rm k (by omega) (by omega)
    have q1 := bC_lt (L := B.2.1) (l := B.2.1 k) (k := k) (N := B.1.toNat) (by omega) rfl
    have q2 := bA_b (B := B) (i := k) k
    have y1 : 0 ≤ B.2.1 k ∧ B.2.1 k < tXs a B s k 1504 282 0 := by rw [e1]; exact P1
    have y2 : 0 ≤ B.2.2 k + bA B k k ∧ B.2.2 k + bA B k k ≤ tXs a B s k 2 284 (B.2.1 k) := by rw [e2]; omega
    have y3 : tXs a B s k 2 284 (B.2.1 k) < 80 := by rw [e2]; omega
    refine ⟨⟨iG_cm x1.1 y1 y2 y3, iH_cm x1.1 x1.2.1 (sgOk_in hs) y1 y2 y3, iM_cm x1.2.2.1, iC_cm x1.2.2.2⟩, iV_cm V1 y2 hn, (cm_o (by decide)).trans e1, fun l => ?_, (cm_o (by decide)).trans e3, rZ_tr e4 (fun k r i m => cm_o (by omega))⟩
    show tCm (tXs a B s k) (B.2.1 k) (B.2.2 k + bA B k k) s 2 284 l = a 2 284 l + (bC B.2.1 l k + (if B.2.1 (k : Int) = l then 1 else 0))
    rw [cm_l, e2, e2]
    by_cases z : l = B.2.1 k
    · rw [if_pos z, if_pos z.symm, z]
      omega
    · rw [if_neg z, if_neg (fun w => z w.symm)]
      omega
/-- the k-th sign may come -/
theorem xs_may (x0 : iA a) (V : iV n a) (hn : 0 ≤ n) (hs : sgOk s) (o : okB a B) (rm : room a B) {k : Nat} (hk : (k : Int) < B.1) : (0 ≤ B.2.1 k ∧ B.2.1 k < tXs a B s k 1504 282 0) ∧ (0 ≤ B.2.2 k + bA B k k ∧ B.2.2 k + bA B k k ≤ tXs a B s k 2 284 (B.2.1 k)) ∧ tXs a B s k 2 284 (B.2.1 k) < 80 := by
  obtain ⟨x1, V1, e1, e2, e3, e4⟩ := xs_all x0 V hn hs o rm k (by omega)
  obtain ⟨o1, o2, o3⟩ := o
  have P := o2 k (by omega) (by omega)
  have P1 : 0 ≤ B.2.1 k ∧ B.2.1 k < a 1504 282 0 := P.1
  have P2 : 0 ≤ B.2.2 k ∧ B.2.2 k ≤ a 2 284 (B.2.1 k) := P.2
  have R : a 2 284 (B.2.1 k) + bC B.2.1 (B.2.1 k) B.1.toNat ≤ 80 := rm k (by omega) (by omega)
  have q1 := bC_lt (L := B.2.1) (l := B.2.1 k) (k := k) (N := B.1.toNat) (by omega) rfl
  have q2 := bA_b (B := B) (i := k) k
  rw [e1, e2]
  omega
/-- scratch of the reference doesn't matter to a sign that comes -/
theorem mF_cm (f : mF sA2 sT2 a b) : mF sA2 sT2 (tCm a l x s) (tCm b l x s) := by
  have E : ∀ r i : Int, 283 ≤ r → r ≤ 309 → b 2 r i = a 2 r i := fun r i u v => m2_r f (by omega)
  have T : ∀ (k : Nat) (r i : Int), ¬ (k = 2 ∧ r ∈ sA2) → ¬ (r = 282 ∧ k ∈ sT2) → tI b l x s k r i = tI a l x s k r i := fun k r i n1 n2 => by
    unfold tI sgR vup
    rw [E 284 l (by decide) (by decide)]
    dsimp only
    rw [f k r i n1 n2]
    by_cases z1 : k = 2 ∧ r = 284 ∧ i = l
    · rw [if_pos z1, if_pos z1]
    · rw [if_neg z1, if_neg z1]
      by_cases z2 : k = 2 ∧ r = 283 ∧ i = 80 * l + x
      · rw [if_pos z2, if_pos z2]
      · rw [if_neg z2, if_neg z2]
        rw [E 283 (i - 1) (by decide) (by decide)]
  have T2 : ∀ r i : Int, 283 ≤ r → r ≤ 309 → tI b l x s 2 r i = tI a l x s 2 r i := fun r i u v => T 2 r i (fun w => by simp at w; omega) (fun w => by omega)
  have G : ∀ r i : Int, rgL r ∨ rgC r → gCm l x (tI b l x s) r i = gCm l x (tI a l x s) r i := fun r i hr => by
    unfold gCm
    rw [T2 294 i (by decide) (by decide), T2 295 i (by decide) (by decide), T2 296 i (by decide) (by decide), T2 298 i (by decide) (by decide), T2 299 i (by decide) (by decide), T2 305 i (by decide) (by decide), T2 306 i (by decide) (by decide), T2 308 i (by decide) (by decide), T2 309 i (by decide) (by decide), T2 r i (by unfold rgL rgS rgV rgF rgC at hr; omega) (by unfold rgL rgS rgV rgF rgC at hr; omega)]
  intro k r i n1 n2
  unfold tCm TT mp
  by_cases z : k = 2 ∧ rgC r ∧ 0 ≤ i ∧ i < 4
  · rw [if_pos z, if_pos z]
    exact G r i (Or.inr z.2.1)
  · rw [if_neg z, if_neg z]
    by_cases y : k = 2 ∧ rgL r ∧ 0 ≤ i ∧ i < 6 * 4
    · rw [if_pos y, if_pos y]
      exact G r i (Or.inl y.2.1)
    · rw [if_neg y, if_neg y]
      exact T k r i n1 n2
theorem M_typesBox (x0 : iA a) (V : iV n a) (hn : 0 ≤ n ∧ n ≤ 9000) (hs : sgOk s) (o : okB a B) (rm : room a B) (b10 : B.1 ≤ 10) (F0 : mF sA2 sT2 a h) (eb : h 1562 282 0 = B.1) (hb : hB h 336 B) : ∃ h2, vcl mX13_typesBox [(1, 282), (0, s)] h = some (.inl none, h2) ∧ mF sA2 sT2 (tXs a B s B.1.toNat) h2 ∧ h2 1562 282 0 = B.1 ∧ h2 1500 282 0 = h 1500 282 0 := by
  have b0 := o.1
  -- the places behind the k-th are pushed
  have push : ∀ (f e : Nat) (k : Nat) (h1 : vH), (e : Int) + f = B.1 → k < e → shModel h1 → h1 1562 282 0 = B.1 → (∀ i, 0 ≤ i → i < B.1 → h1 2 336 i = B.2.1 i) → (∀ i, (e : Int) ≤ i → i < B.1 → h1 2 337 i = B.2.2 i + bA B i k) → (∀ i, (k : Int) < i → i < (e : Int) → h1 2 337 i = B.2.2 i + bA B i (k + 1)) → ∃ h2 v4, vrun mX13_typesBox 34 [(1, 282), (0, s), (0, (k : Int)), (0, B.2.2 k + bA B k k), (0, (e : Int))] [] h1 = vrun mX13_typesBox 2 [(1, 282), (0, s), (0, (k : Int) + 1), (0, B.2.2 k + bA B k k), v4] [] h2 ∧ (mF sA2 sT2 h1 h2 ∧ h2 1500 282 0 = h1 1500 282 0) ∧ h2 1562 282 0 = B.1 ∧ (∀ i, 0 ≤ i → i < B.1 → h2 2 336 i = B.2.1 i) ∧ ∀ i, (k : Int) < i → i < B.1 → h2 2 337 i = B.2.2 i + bA B i (k + 1) := by
    intro f
    induction f with
    | zero =>
      intro e k h1 he hk sM e1 e2 e3 e4
      have e0 := rX13_typesBox_34 (x1 := s) (x2 := (k : Int)) (x3 := B.2.2 k + bA B k k) (x4 := (e : Int)) sM
      rw [show h1 1562 282 0 = B.1 from e1] at e0
      exact ⟨h1, _, (e0 (by omega) (by omega) (by omega) (by omega) (by omega) (by omega) (by omega) (by omega)).trans (if_pos (by omega)), ⟨mF_rf, rfl⟩, e1, e2, fun i u v => e4 i u (by omega)⟩
    | succ f ih =>
      intro e k h1 he hk sM e1 e2 e3 e4
      have e0 := rX13_typesBox_34 (x1 := s) (x2 := (k : Int)) (x3 := B.2.2 k + bA B k k) (x4 := (e : Int)) sM
      rw [show h1 1562 282 0 = B.1 from e1, e2 (e : Int) (by omega) (by omega), e2 (k : Int) (by omega) (by omega), e3 (e : Int) (by omega) (by omega)] at e0
      have P := o.2.1 (e : Int) (by omega) (by omega)
      have P1 : 0 ≤ B.2.1 e ∧ B.2.1 e < a 1504 282 0 := P.1
      have P2 : 0 ≤ B.2.2 e ∧ B.2.2 e ≤ a 2 284 (B.2.1 e) := P.2
      have gl := x0.1.1.2.1
      have l80 := x0.1.1.2.2.1 (B.2.1 e) P1.1 (by omega)
      have q1 := bA_b (B := B) (i := (e : Int)) k
      have q2 := bC_b (L := B.2.1) (l := B.2.1 e) k
      have ev : B.2.2 (e : Int) + bA B e k + (if B.2.1 (e : Int) = B.2.1 (k : Int) ∧ ¬ (B.2.2 (e : Int) + bA B e k ≤ B.2.2 (k : Int) + bA B k k) then 1 else 0) = B.2.2 (e : Int) + bA B e (k + 1) := by
        show _ = B.2.2 (e : Int) + (bA B e k + (if B.2.1 (k : Int) = B.2.1 (e : Int) ∧ B.2.2 (k : Int) < B.2.2 (e : Int) then 1 else 0))
        by_cases z : B.2.1 (e : Int) = B.2.1 (k : Int)
        · have d := o.2.2 (k : Int) (e : Int) (by omega) (by omega) (by omega)
          by_cases y : B.2.2 (k : Int) < B.2.2 (e : Int)
          · have m := bA_m (B := B) z.symm y k
            rw [if_pos ⟨z, by omega⟩, if_pos ⟨z.symm, y⟩]
            omega
          · have y2 : B.2.2 (e : Int) < B.2.2 (k : Int) := by
              have : ¬ B.2.2 (k : Int) = B.2.2 (e : Int) := fun w => d ⟨z.symm, w⟩
              omega
            have m := bA_m (B := B) z y2 k
            rw [if_neg (fun w => w.2 (by omega)), if_neg (fun w => y w.2)]
            omega
        · rw [if_neg (fun w => z w.1), if_neg (fun w => z w.1.symm)]
          omega
      have e5 := (e0 (by omega) (by omega) (by omega) (by omega) (by omega) (by omega) (by split <;> omega) (by split <;> omega)).trans (if_neg (by omega))
      rw [ev] at e5
      obtain ⟨h2, v4, q, ⟨q3, q3'⟩, q4⟩ := ih (e + 1) k (vup h1 2 337 e (B.2.2 e + bA B e (k + 1))) (by omega) (by omega) (shModel_sx (sx_up rfl sx_rf) sM) ((vup_k (by decide)).trans e1) (fun i u v => (vup_r (by decide)).trans (e2 i u v)) (fun i u v => (vup_i (by omega)).trans (e3 i (by omega) v)) (fun i u v => by
        rw [vup_2]
        by_cases t : i = (e : Int)
        · rw [if_pos t, t]
        · rw [if_neg t]
          exact e4 i u (by omega))
      refine ⟨h2, v4, e5.trans ?_, ⟨mF_tr (mF_up mF_rf (Or.inl ⟨rfl, by simp⟩)) q3, q3'.trans (vup_k (by decide))⟩, q4⟩
      rw [show (((e + 1 : Nat)) : Int) = (e : Int) + 1 by omega] at q
      exact q
  have loop : ∀ (f k : Nat) (h1 : vH) (v3 v4 : vv), (k : Int) + f = B.1 → mF sA2 sT2 (tXs a B s k) h1 → h1 1562 282 0 = B.1 → (∀ i, 0 ≤ i → i < B.1 → h1 2 336 i = B.2.1 i) → (∀ i, (k : Int) ≤ i → i < B.1 → h1 2 337 i = B.2.2 i + bA B i k) → ∃ h2, vrun mX13_typesBox 2 [(1, 282), (0, s), (0, (k : Int)), v3, v4] [] h1 = some (.inl none, h2) ∧ mF sA2 sT2 (tXs a B s B.1.toNat) h2 ∧ h2 1562 282 0 = B.1 ∧ h2 1500 282 0 = h1 1500 282 0 := by
    intro f
    induction f with
    | zero =>
      intro k h1 v3 v4 hf F e1 e2 e3
      have ek : k = B.1.toNat := by omega
      obtain ⟨x1, V1, -⟩ := xs_all x0 V hn.1 hs o rm k (by omega)
      have e0 := rX13_typesBox_2 (x1 := s) (x2 := (k : Int)) (v3 := v3) (v4 := v4) (iG_m2 F x1.1).1.1
      rw [show h1 1562 282 0 = B.1 from e1] at e0
      rw [ek] at F
      exact ⟨h1, (e0 (by omega) (by omega)).trans (if_pos (by omega)), F, e1, rfl⟩
    | succ f ih =>
      intro k h1 v3 v4 hf F e1 e2 e3
      obtain ⟨x1, V1, e1', e2', -, -⟩ := xs_all x0 V hn.1 hs o rm k (by omega)
      obtain ⟨y1, y2, y3⟩ := xs_may x0 V hn.1 hs o rm (k := k) (by omega)
      have g1 := iG_m2 F x1.1
      have gl := x1.1.1.2.1
      have e0 := rX13_typesBox_2 (x1 := s) (x2 := (k : Int)) (v3 := v3) (v4 := v4) g1.1.1
      rw [show h1 1562 282 0 = B.1 from e1, e2 (k : Int) (by omega) (by omega), e3 (k : Int) (by omega) (by omega)] at e0
      have L1 : h1 2 284 (B.2.1 k) = tXs a B s k 2 284 (B.2.1 k) := m2_r F (by decide)
      have bd1 : bdP h1 := iV_bd g1 (fun i u v => by
        have := V1 i u v
        rw [m2_r F (r := 294) (by decide), m2_r F (r := 295) (by decide), m2_r F (r := 296) (by decide), m2_r F (r := 298) (by decide), m2_r F (r := 299) (by decide), m2_r F (r := 302) (by decide), m2_r F (r := 303) (by decide), m2_r F (r := 284) (by decide), m2_r F (r := 284) (by decide), F 1504 282 0 (by decide) (by decide)]
        exact this) hn
      have C := M_comes (s := s) g1.1.1 bd1 (l := B.2.1 k) (x := B.2.2 k + bA B k k) ⟨y1.1, by omega⟩ (by rw [L1]; exact y2) (by rw [L1]; exact y3)
      have F2 : mF sA2 sT2 (tXs a B s (k + 1)) (tCm h1 (B.2.1 k) (B.2.2 k + bA B k k) s) := mF_cm F
      have o2 : ∀ (kk : Nat) (r i : Int), ¬ (kk = 2 ∧ (r = 283 ∨ r = 284 ∨ r = 295 ∨ r = 296 ∨ r = 299 ∨ r = 306 ∨ r = 309)) → tCm h1 (B.2.1 k) (B.2.2 k + bA B k k) s kk r i = h1 kk r i := fun kk r i z => cm_o z
      obtain ⟨h2, v5, q1, ⟨q2, q2'⟩, q3, q4, q5⟩ := push f (k + 1) k (tCm h1 (B.2.1 k) (B.2.2 k + bA B k k) s) (by omega) (by omega) (shModel_sx cm_sx g1.1.1) ((o2 _ _ _ (by decide)).trans e1) (fun i u v => (o2 _ _ _ (by decide)).trans (e2 i u v)) (fun i u v => (o2 _ _ _ (by decide)).trans (e3 i (by omega) v)) (fun i u v => by omega)
      obtain ⟨h3, t1, t2, t3, t4⟩ := ih (k + 1) h2 (0, B.2.2 k + bA B k k) v5 (by omega) (mF_tr F2 q2) q3 q4 (fun i u v => q5 i (by omega) v)
      refine ⟨h3, ?_, t2, t3, t4.trans (q2'.trans (o2 _ _ _ (by decide)))⟩
      rw [show (((k + 1 : Nat)) : Int) = (k : Int) + 1 by omega] at t1 q1
      exact (e0 (by omega) (by omega)).trans ((if_neg (by omega)).trans ((vret_n C).trans ((rX13_typesBox_29 (by omega) (by omega)).trans (q1.trans t1))))
  obtain ⟨h2, q1, q2⟩ := loop B.1.toNat 0 h (9, 0) (9, 0) (by omega) F0 eb (fun i u v => (hb i u v).1) (fun i u v => (hb i (by omega) v).2.trans (Int.add_zero _).symm)
  exact ⟨h2, (show _ = _ from rX13_typesBox_0).trans q1, q2⟩
end BO2
