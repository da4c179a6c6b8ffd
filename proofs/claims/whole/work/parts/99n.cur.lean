/-! the calls that move cursors -/
/-- what holds of the reference between calls, further -/
def iH (a : vH) : Prop := stB (a 2 289) (a 2 290) (a 2 291) (a 2 292) ∧ (∃ p, 0 ≤ p ∧ p < 4 ∧ ¬ a 2 289 p = 0) ∧
  (∀ p, 0 ≤ p → p < 4 → (0 ≤ a 2 310 p ∧ a 2 310 p ≤ 24) ∧ (¬ a 2 289 p = 0 → 1 ≤ a 2 310 p)) ∧
  sSm (fun p => if a 2 289 p = 0 then 0 else if a 2 292 p = -1 then a 2 291 p else a 2 292 p) 4 ≤ 24 ∧
  ((0 ≤ a 1559 282 0 ∧ a 1559 282 0 ≤ 50) ∧ ∀ i, 0 ≤ i → i < a 1559 282 0 → (0 ≤ a 2 334 i ∧ a 2 334 i < 4) ∧ 0 ≤ a 2 335 i ∧ a 2 335 i ≤ 7) ∧
  (∀ p, 0 ≤ p → p < 4 → (0 ≤ a 2 329 p ∧ a 2 329 p ≤ 24) ∧ ∀ k, 0 ≤ k → k < a 2 329 p → -1 ≤ a 2 327 (24 * p + k) ∧ a 2 327 (24 * p + k) ≤ 131) ∧
  ∀ l x, 0 ≤ l → l < a 1504 282 0 → 0 ≤ x → x < a 2 284 l → 0 ≤ a 2 283 (80 * l + x) ∧ a 2 283 (80 * l + x) ≤ 127
/-- what a call threw is set -/
def th (k : Int) (a : vH) : vH := vup a 1500 282 0 k
section CUR
variable {h h1 a b : vH} {p P l x y : Int}
theorem eqB_up {r v : Int} (z : eqB p a b) (hr : 305 ≤ r ∧ r ≤ 309) : eqB p a (vup b 2 r p v) := fun k q i e => (if_neg (fun w => e ⟨w.1, by omega, by omega, w.2.2⟩)).trans (z k q i e)
theorem eqB_tr {c : vH} (u : eqB p a b) (v : eqB p b c) : eqB p a c := fun k r i e => (v k r i e).trans (u k r i e)
theorem eqB_go : eqB p a (tGo a p l x) := eqB_up (eqB_up eqB_rf (by decide)) (by decide)
theorem eqB_wn {v : Int} : eqB p a (tWn a p v) := eqB_up eqB_rf (by decide)
theorem eqB_top {r : Int} : eqB p a (tTop a p r) := eqB_up (eqB_up eqB_rf (by decide)) (by decide)
theorem eqB_ch : eqB p a (tCh a p l x) := by
  unfold tCh
  split
  · exact eqB_rf
  · exact eqB_go
theorem eqB_lk : eqB p a (tLk a p) := by
  unfold tLk
  split
  · split
    · exact eqB_rf
    · exact eqB_top
  · exact eqB_top
theorem eqB_M2 {mv : Int} : eqB p a (tM2 a p mv) := by
  unfold tM2 tM1
  split
  · exact eqB_tr eqB_ch eqB_wn
  · exact eqB_tr eqB_ch eqB_wn
theorem eqB_Mk {mv : Int} : eqB p a (tMk a p mv) := by
  unfold tMk
  split
  · exact eqB_M2
  · exact eqB_tr eqB_M2 eqB_lk
theorem eqB_S2 : eqB p a (tS2 a p) := by
  unfold tS2
  split
  · exact eqB_rf
  · exact eqB_go
theorem eqB_Sc : eqB p a (tSc a p y) := eqB_tr eqB_top eqB_S2
theorem iH_of {a b : vH} (e : ∀ r i : Int, (283 ≤ r ∧ r ≤ 304 ∨ 310 = r ∨ r = 327 ∨ r = 329 ∨ r = 334 ∨ r = 335) → b 2 r i = a 2 r i) (eg : b 1559 282 0 = a 1559 282 0) (el : b 1504 282 0 = a 1504 282 0) (i : iH a) : iH b := by
  have R : ∀ r : Int, (283 ≤ r ∧ r ≤ 304 ∨ 310 = r ∨ r = 327 ∨ r = 329 ∨ r = 334 ∨ r = 335) → b 2 r = a 2 r := fun r hr => funext (fun i => e r i hr)
  unfold iH at i ⊢
  rw [R 289 (by decide), R 290 (by decide), R 291 (by decide), R 292 (by decide), R 310 (by decide), R 334 (by decide), R 335 (by decide), R 329 (by decide), R 327 (by decide), R 284 (by decide), R 283 (by decide), eg, el]
  exact i
theorem iH_B (z : eqB p a b) (i : iH a) : iH b := iH_of (fun r j hr => z 2 r j (by omega)) (z _ _ _ (by omega)) (z _ _ _ (by omega)) i
theorem iH_th {k : Int} (i : iH a) : iH (th k a) := iH_of (fun r j hr => vup_k (by decide)) (vup_k (by decide)) (vup_k (by decide)) i
theorem cAll_th {k : Int} (c : cAll h a) : cAll h (th k a) := cAll_rfE (fun q r i h1 h2 h3 h4 => if_neg (fun z => h4 ⟨z.2.1, by rw [z.1]; decide⟩)) (mF_sx (K := sT) (A := sA) fine_F (by decide)) c
theorem iG_tk {k : Int} (g : iG a) : iG (th k a) := iG_sT fine_F g
theorem mO_t {k v w : Int} (f : mF sA sK b h1) (t : b 1500 282 0 = k) (e : k = 0 → w = v) : mOut b k v (some (.inl (some (0, w)), h1)) := ⟨h1, w, rfl, sT2_of (sT_of f), th_K t f, e⟩
theorem hO (i : iH a) (hp : 0 ≤ p ∧ p < 4) (ho : ¬ a 2 289 p = 0) : 1 ≤ a 2 310 p ∧ a 2 310 p ≤ 24 := ⟨(i.2.2.1 p hp.1 hp.2).2 ho, (i.2.2.1 p hp.1 hp.2).1.2⟩
theorem C_isOpen (c : cAll h a) (hp : 0 ≤ p ∧ p < 4) : fX9_isOpen h p = if a 2 289 p = 0 then 0 else 1 := by
  have e := (c.2.2.2.1 p hp.1 hp.2).1.1
  unfold fX9_isOpen
  rw [e]
  by_cases z : a 2 289 p = 0
  · rw [if_pos z, if_neg (fun w => w.2 z)]
  · rw [if_neg z, if_pos ⟨by omega, z⟩]
theorem C_chkState {v : Int} : (¬ v = 0 → vcl mX12_checkState [(1, 3), (0, v)] h = some (.inl none, h)) ∧ (v = 0 → vcl mX12_checkState [(1, 3), (0, v)] h = some (.inr "java/lang/IllegalStateException", vexc h)) := ⟨fun z => (show _ = _ from rX12_checkState_0).trans (if_neg z), fun z => (show _ = _ from rX12_checkState_0).trans (if_pos z)⟩
/-- scroll -/
def kSc (a : vH) (p y : Int) : Int := if 0 ≤ p ∧ p < 4 then (if -100 ≤ y ∧ y ≤ 100 then (if a 2 289 p = 0 then 3 else 0) else 2) else 1
noncomputable def tScr (a : vH) (p y : Int) : vH := if kSc a p y = 0 then tSc (th 0 a) p y else th (kSc a p y) a
noncomputable def vScr (a : vH) (p y : Int) : Int := toR (tSc (th 0 a) p y) p
theorem kSc_0 : kSc a p y = 0 ↔ (0 ≤ p ∧ p < 4) ∧ (-100 ≤ y ∧ y ≤ 100) ∧ ¬ a 2 289 p = 0 := by
  unfold kSc
  by_cases z1 : 0 ≤ p ∧ p < 4
  · by_cases z2 : -100 ≤ y ∧ y ≤ 100
    · by_cases z3 : a 2 289 p = 0
      · rw [if_pos z1, if_pos z2, if_pos z3]; exact ⟨fun w => absurd w (by decide), fun w => absurd z3 w.2.2⟩
      · rw [if_pos z1, if_pos z2, if_neg z3]; exact ⟨fun _ => ⟨z1, z2, z3⟩, fun _ => rfl⟩
    · rw [if_pos z1, if_neg z2]; exact ⟨fun w => absurd w (by decide), fun w => absurd w.2.1 z2⟩
  · rw [if_neg z1]; exact ⟨fun w => absurd w (by decide), fun w => absurd w.1 z1⟩
theorem Mq_scroll (g : iG h) (i : iH h) : mOut (tScr h p y) (kSc h p y) (vScr h p y) (vcl mX13_scroll [(1, 282), (0, p), (0, y)] h) := by
  have e0 := rX13_scroll_0 (x1 := p) (x2 := y) (h := h) g.1.1 (by omega) (by omega)
  have ek : (if ¬ (p < 0) ∧ ¬ (3 < p) then (if ¬ (y < (-100)) ∧ ¬ (100 < y) then (if h 2 289 p = 0 then (3 : Int) else 0) else 2) else 1) = kSc h p y := by
    unfold kSc
    by_cases z1 : 0 ≤ p ∧ p < 4
    · by_cases z2 : -100 ≤ y ∧ y ≤ 100
      · rw [if_pos z1, if_pos z2, if_pos (by omega), if_pos (by omega)]
      · rw [if_pos z1, if_neg z2, if_pos (by omega), if_neg (by omega)]
    · rw [if_neg z1, if_neg (by omega)]
  rw [ek] at e0
  unfold tScr
  by_cases z : kSc h p y = 0
  · obtain ⟨z1, z2, z3⟩ := kSc_0.mp z
    rw [if_pos z]
    rw [z] at e0 ⊢
    have gt : iG (th 0 h) := iG_tk g
    have hH : 1 ≤ th 0 h 2 310 p ∧ th 0 h 2 310 p ≤ 24 := hO (iH_th i) z1 (by unfold th; rw [vup_k (by decide)]; exact z3)
    obtain ⟨h2, d1, d2⟩ := M_scrollC gt z1 hH z2 (x3 := if ¬ (p < 0) ∧ ¬ (3 < p) then 1 else 0)
    refine mO_eq (e0.trans ((fine1 g.1.1).trans ((rX13_scroll_46 gt.1.1).trans ?_))) (mO_t d2 ((eqB_Sc _ _ _ (by omega)).trans vup_s) (fun _ => rfl))
    rw [if_neg (by decide)]
    exact d1
  · rw [if_neg z]
    exact mO_eq (e0.trans ((fine0 g.1.1 z).trans ((rX13_scroll_46 (iG_th g).1.1).trans (if_pos rfl)))) (mO_t mF_rf vup_s (fun w => absurd w z))
theorem Cq_scroll (c : cAll h a) (g : iG a) (i : iH a) : cOut h (tScr a p y) (kSc a p y) (vScr a p y) e3 (vcl mX12_scroll [(1, 3), (0, p), (0, y)] h) := by
  have c0 := cAll_th (k := 0) c
  have g0 : iG (th 0 a) := iG_tk g
  have op : th 0 a 2 289 p = a 2 289 p := vup_k (by decide)
  unfold tScr
  by_cases z1 : 0 ≤ p ∧ p < 4
  · obtain ⟨h1, d1, d2, d3, d4⟩ := C_laid c0 g0 z1
    have e1 := (rX12_scroll_0 (x1 := p) (x2 := y) c0.1).trans ((vret_v d1).trans (rX12_scroll_5 d3.1))
    by_cases z2 : -100 ≤ y ∧ y ≤ 100
    · have e2 := e1.trans ((vret_n (C_chkRange.1 z2)).trans (rX12_scroll_15 d3.1 (cAll_sh d3).2 (by omega) (by omega)))
      rw [C_isOpen d3 z1, op] at e2
      by_cases z3 : a 2 289 p = 0
      · have k3 : kSc a p y = 3 := by unfold kSc; rw [if_pos z1, if_pos z2, if_pos z3]
        rw [if_pos z3] at e2
        rw [k3, if_neg (by decide)]
        obtain ⟨h1', d1', d2', d3', d4'⟩ := C_laid (cAll_th (k := 3) c) (iG_tk g) z1
        have hh : h1' = h1 := by
          have := d1'.symm.trans d1
          injection this with this
          injection this
        rw [hh] at d3'
        exact cO_eq (e2.trans (vret_x (C_chkState.2 rfl) rfl)) (cO_x d3' (kR_qC z1 d2) (by decide) rfl)
      · have k0 : kSc a p y = 0 := kSc_0.mpr ⟨z1, z2, z3⟩
        rw [if_neg z3] at e2
        rw [k0, if_pos rfl]
        have hH : 1 ≤ th 0 a 2 310 p ∧ th 0 a 2 310 p ≤ 24 := hO (iH_th i) z1 (by rw [op]; exact z3)
        obtain ⟨h2, u1, u2, u3⟩ := C_scrollBy g0 z1 (by omega) d4 (H := fX9_heightOf h1 p) (C_heightOf d3 z1) hH z2
        exact cO_eq (e2.trans ((vret_n (C_chkState.1 (by decide))).trans ((rX12_scroll_27 d3.1 (cAll_sh d3).2 (by omega) (by omega) d4.2.1.1).trans ((vret_v u1).trans rX12_scroll_40)))) (cO_v (cAll_qC z1 u2 eqB_Sc d3 (cRd_Pan u3) u3.1) (kR_qC z1 (qC_tr d2 u2)))
    · have k2 : kSc a p y = 2 := by unfold kSc; rw [if_pos z1, if_neg z2]
      rw [k2, if_neg (by decide)]
      obtain ⟨h1', d1', d2', d3', d4'⟩ := C_laid (cAll_th (k := 2) c) (iG_tk g) z1
      have hh : h1' = h1 := by
        have := d1'.symm.trans d1
        injection this with this
        injection this
      rw [hh] at d3'
      exact cO_eq (e1.trans (vret_x (C_chkRange.2 z2) rfl)) (cO_x d3' (kR_qC z1 d2) (by decide) rfl)
  · have k1 : kSc a p y = 1 := by unfold kSc; rw [if_neg z1]
    rw [k1, if_neg (by decide)]
    exact cO_eq ((rX12_scroll_0 c.1).trans (vret_x (C_laidX c z1) rfl)) (cO_x (cAll_th c) cR_rf (by decide) rfl)
theorem iX_scroll (g : iG a) (i : iH a) : iG (tScr a p y) ∧ iH (tScr a p y) := by
  unfold tScr
  by_cases z : kSc a p y = 0
  · obtain ⟨z1, z2, z3⟩ := kSc_0.mp z
    have hH : 1 ≤ th 0 a 2 310 p ∧ th 0 a 2 310 p ≤ 24 := hO (iH_th i) z1 (by unfold th; rw [vup_k (by decide)]; exact z3)
    rw [if_pos z]
    exact ⟨iG_Sc (iG_tk g) z1 hH, iH_B eqB_Sc (iH_th i)⟩
  · rw [if_neg z]
    exact ⟨iG_tk g, iH_th i⟩
end CUR
