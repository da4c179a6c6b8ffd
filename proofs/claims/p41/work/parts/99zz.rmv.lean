/-! one is taken out of a list: all that the class tells -/
/-- only a list of a pane -/
def rmF (p t : Int) (h h2 : vH) : Prop := ∀ (k : Nat) (r i : Int), ¬ (r = 140 + 36 * p + t ∧ (k = 100 ∨ k = 102)) → ¬ (k = 2 ∧ 282 ≤ r) → h2 k r i = h k r i
section RMV
variable {h h2 a b : vH} {p q P Q X l x s f t j st r l0 x0 n d : Int}
theorem ixR_in (hj : 0 ≤ j) {i : Int} (ht : 0 ≤ t ∧ t < 3) (hs : 0 ≤ s ∧ s < 3) (u : 0 ≤ i) (v : i < nL (dR a p t j) q s) : 0 ≤ ixR p t j q s i ∧ ixR p t j q s i < nL a q s := by
  rw [dR_n ht hs] at v
  unfold ixR
  by_cases z : q = p ∧ s = t
  · rw [if_pos z] at v
    rw [z.1, z.2] at *
    split <;> omega
  · rw [if_neg z] at v
    rw [if_neg (fun w => z w.1)]
    omega
theorem ixR_inj {i i2 : Int} (e : ixR p t j q s i = ixR p t j q s i2) : i = i2 := by
  unfold ixR at e
  split at e <;> split at e <;> omega
theorem rmF_lF (hp : 0 ≤ p ∧ p < 4) (ht : 0 ≤ t ∧ t < 3) (x : rmF p t h h2) : lF h h2 := fun k r i e => x k r i (by omega) (by omega)
theorem cW_rm (c : cW h a) (I : iD h) (n6 : cn6 a) (hp : 0 ≤ p ∧ p < 4) (ht : 0 ≤ t ∧ t < 3) (hj : 0 ≤ j ∧ j < nL a p t) : ∃ h2 e, vcl mJx4a65c_remove_915e3 [(1, 140 + 36 * p + t), (0, j)] h = some (.inl (some (1, e)), h2) ∧ rmF p t h h2 ∧ cW h2 (dR a p t j) := by
  have U := c.2.2.2.2.2
  have Lp := (c.2.2.1 p hp.1 hp.2).2.1.2.1
  have li := cLi_of Lp ht
  obtain ⟨d3, dk, dn⟩ := cUq_d U I hp ht li (by omega)
  have N6 : ∀ q s, 0 ≤ q → q < 4 → 0 ≤ s → s < 3 → 0 ≤ nL a q s ∧ nL a q s ≤ 6 := fun q s u v w y => by
    obtain ⟨k1, k2, k3⟩ := n6 q u v
    rcases (show s = 0 ∨ s = 1 ∨ s = 2 by omega) with z | z | z <;> subst z
    · rw [nL_s]; exact k1
    · rw [nL_v]; exact k2
    · rw [nL_f]; exact k3
  have M6 : ∀ q s, 0 ≤ q → q < 4 → 0 ≤ s → s < 3 → nL (dR a p t j) q s ≤ 6 := fun q s u v w y => by
    have k1 := N6 q s u v w y
    have k2 := N6 p t hp.1 hp.2 ht.1 ht.2
    rw [dR_n ht ⟨w, y⟩]
    split <;> omega
  have n6p := N6 p t hp.1 hp.2 ht.1 ht.2
  obtain ⟨h2, r1, F, sz, el⟩ := C_lrm li.1 li.2.1 dk rfl (li.2.2 (by omega)).2 (kd_of Lp ht) hj (by omega)
  have F1 : lF h h2 := fun k r i e => F k r i (by omega) (fun z => e (by omega))
  have e3 : h2 3 0 0 = h 3 0 0 := F1 _ _ _ (by omega)
  have eD : ∀ q s, dL h2 q s = dL h q s := fun q s => F _ _ _ (by omega) (by omega)
  have eE : ∀ q s i, 0 ≤ q → q < 4 → 0 ≤ s → s < 3 → 0 ≤ i → i < nL (dR a p t j) q s → eL h2 q s i = eL h q s (ixR p t j q s i) := fun q s i q0 q4 s0 s3 i0 iN => by
    rw [dR_n ht ⟨s0, s3⟩] at iN
    show h2 2 (dL h2 q s) i = h 2 (dL h q s) (ixR p t j q s i)
    rw [eD]
    unfold ixR
    by_cases z : q = p ∧ s = t
    · rw [if_pos z] at iN
      have e := el i i0 iN
      rw [z.1, z.2]
      refine Eq.trans e ?_
      by_cases y : i < j
      · rw [if_pos y, if_neg (by omega)]
      · rw [if_neg y, if_pos ⟨⟨rfl, rfl⟩, by omega⟩]
    · rw [if_neg (fun w => z w.1)]
      refine F 2 _ _ (by omega) (fun w => ?_)
      rcases U.2.2.1 q s p t q0 q4 s0 s3 hp.1 hp.2 ht.1 ht.2 w.2 with y | y
      · rw [w.2] at y
        have : dL h p t = 1 := y
        omega
      · exact z y
  have G : ∀ (k : Nat) (r i : Int), ¬ (k = 2 ∨ k = 100 ∨ k = 102) → h2 k r i = h k r i := fun k r i e => F k r i (by omega) (by omega)
  have eN : ∀ q s, 0 ≤ q → q < 4 → 0 ≤ s → s < 3 → cLi h2 (140 + 36 * q + s) (nL (dR a p t j) q s) := fun q s q0 q4 s0 s3 => by
    have lq := cLi_of (c.2.2.1 q q0 q4).2.1.2.1 ⟨s0, s3⟩
    rw [dR_n ht ⟨s0, s3⟩]
    by_cases z : q = p ∧ s = t
    · rw [if_pos z, z.1, z.2]
      refine ⟨(G _ _ _ (by decide)).trans li.1, sz, fun _ => ?_⟩
      have : h2 101 (140 + 36 * p + t) 0 = dL h p t := G _ _ _ (by decide)
      rw [this, G 0 _ _ (by decide), G 1 _ _ (by decide)]
      exact ⟨dk, by omega⟩
    · rw [if_neg z]
      have n1 : ¬ 140 + 36 * q + s = 140 + 36 * p + t := by omega
      refine ⟨(G _ _ _ (by decide)).trans lq.1, (F _ _ _ (by omega) (by omega)).trans lq.2.1, fun y => ?_⟩
      rw [G 101 _ _ (by decide), G 0 _ _ (by decide), G 1 _ _ (by decide)]
      exact lq.2.2 y
  have pl : ∀ {r st l x : Int}, cPl h r st l x → cPl h2 r st l x := fun c => ⟨(G _ _ _ (by decide)).trans c.1, (G _ _ _ (by decide)).trans c.2.1, (G _ _ _ (by decide)).trans c.2.2⟩
  have X := lF_sx F1
  refine ⟨h2, _, r1, fun k r i u v => F k r i u (fun z => v ⟨z.1, by omega⟩), cW_ly c (fun k r i u v w => F k r i (by omega) (by omega)) (fun k r i u v w _ => dR_o ht w) (fun q q0 q4 => ?_) ⟨by rw [e3]; exact U.1, fun q s a1 a2 a3 a4 => ?_, fun q s q2 s2 a1 a2 a3 a4 b1 b2 b3 b4 => ?_, fun q s i a1 a2 a3 a4 a5 a6 => ?_, fun q s i q2 s2 i2 a1 a2 a3 a4 a5 a6 b1 b2 b3 b4 b5 b6 => ?_⟩⟩
  · obtain ⟨l1, l2, l3, l4, l5, l6, l7⟩ := (c.2.2.1 q q0 q4).2.1.2.1
    have v0 := eN q 0 q0 q4 (by decide) (by decide)
    have v1 := eN q 1 q0 q4 (by decide) (by decide)
    have v2 := eN q 2 q0 q4 (by decide) (by decide)
    rw [nL_s, show 140 + 36 * q + 0 = 138 + 36 * q + 1 + 1 by omega] at v0
    rw [nL_v, show 140 + 36 * q + 1 = 138 + 36 * q + 1 + 2 by omega] at v1
    rw [nL_f, show 140 + 36 * q + 2 = 138 + 36 * q + 1 + 3 by omega] at v2
    refine ⟨shLayers_sx X l1, v0, v1, v2, fun i u v => ?_, fun i u v => ?_, fun i u v => ?_⟩
    · rw [← nL_s (a := dR a p t j) (p := q)] at v
      have m6 := M6 q 0 q0 q4 (by decide) (by decide)
      obtain ⟨w1, w2⟩ := ixR_in (q := q) hj.1 ht (by decide) u v
      rw [nL_s] at w2
      obtain ⟨m1, m2, m3⟩ := l5 _ w1 w2
      rw [eL_s] at m1 m2 m3
      rw [eL_s, eE q 0 i q0 q4 (by decide) (by decide) u v, dR_r n6p.2 hp ht (s := 0) (by decide) (by decide) hj.1 ⟨u, v⟩ m6, dR_r n6p.2 hp ht (s := 0) (by decide) (by decide) hj.1 ⟨u, v⟩ m6, dR_r n6p.2 hp ht (s := 0) (by decide) (by decide) hj.1 ⟨u, v⟩ m6]
      exact ⟨shSpan_sx X m1, pl m2, pl m3⟩
    · rw [← nL_v (a := dR a p t j) (p := q)] at v
      have m6 := M6 q 1 q0 q4 (by decide) (by decide)
      obtain ⟨w1, w2⟩ := ixR_in (q := q) hj.1 ht (by decide) u v
      rw [nL_v] at w2
      obtain ⟨m1, m2, m3, m4⟩ := l6 _ w1 w2
      rw [eL_v] at m1 m2 m3
      rw [eL_v, eE q 1 i q0 q4 (by decide) (by decide) u v, dR_r n6p.2 hp ht (s := 1) (by decide) (by decide) hj.1 ⟨u, v⟩ m6, dR_r n6p.2 hp ht (s := 1) (by decide) (by decide) hj.1 ⟨u, v⟩ m6, dR_r n6p.2 hp ht (s := 1) (by decide) (by decide) hj.1 ⟨u, v⟩ m6]
      exact ⟨shVirtual_sx X m1, pl m2, (G _ _ _ (by decide)).trans m3, m4⟩
    · rw [← nL_f (a := dR a p t j) (p := q)] at v
      have m6 := M6 q 2 q0 q4 (by decide) (by decide)
      obtain ⟨w1, w2⟩ := ixR_in (q := q) hj.1 ht (by decide) u v
      rw [nL_f] at w2
      obtain ⟨m1, m2, m3, m4⟩ := l7 _ w1 w2
      rw [eL_f] at m1 m2 m3 m4
      rw [eL_f, eE q 2 i q0 q4 (by decide) (by decide) u v, dR_r n6p.2 hp ht (s := 2) (by decide) (by decide) hj.1 ⟨u, v⟩ m6, dR_r n6p.2 hp ht (s := 2) (by decide) (by decide) hj.1 ⟨u, v⟩ m6, dR_r n6p.2 hp ht (s := 2) (by decide) (by decide) hj.1 ⟨u, v⟩ m6]
      exact ⟨shFold_sx X m1, (G _ _ _ (by decide)).trans m2, (G _ _ _ (by decide)).trans m3, (G _ _ _ (by decide)).trans m4⟩
  · rw [eD, e3]; exact U.2.1 q s a1 a2 a3 a4
  · rw [eD, eD]; exact U.2.2.1 q s q2 s2 a1 a2 a3 a4 b1 b2 b3 b4
  · rw [eE q s i a1 a2 a3 a4 a5 a6, e3]
    obtain ⟨w1, w2⟩ := ixR_in (q := q) hj.1 ht ⟨a3, a4⟩ a5 a6
    exact U.2.2.2.1 q s _ a1 a2 a3 a4 w1 w2
  · rw [eE q s i a1 a2 a3 a4 a5 a6, eE q2 s2 i2 b1 b2 b3 b4 b5 b6]
    obtain ⟨w1, w2⟩ := ixR_in (q := q) hj.1 ht ⟨a3, a4⟩ a5 a6
    obtain ⟨w3, w4⟩ := ixR_in (q := q2) hj.1 ht ⟨b3, b4⟩ b5 b6
    intro e
    obtain ⟨z1, z2, z3⟩ := U.2.2.2.2 q s _ q2 s2 _ a1 a2 a3 a4 w1 w2 b1 b2 b3 b4 w3 w4 e
    subst z1; subst z2
    exact ⟨rfl, rfl, ixR_inj z3⟩
end RMV

