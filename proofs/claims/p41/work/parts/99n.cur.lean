/-! the calls that move cursors -/
/-- what holds of the reference between calls, further -/
def iH (a : vH) : Prop := stB (a 2 289) (a 2 290) (a 2 291) (a 2 292) ∧ (∃ p, 0 ≤ p ∧ p < 4 ∧ ¬ a 2 289 p = 0) ∧
  (∀ p, 0 ≤ p → p < 4 → (0 ≤ a 2 310 p ∧ a 2 310 p ≤ 24) ∧ (¬ a 2 289 p = 0 → 1 ≤ a 2 310 p)) ∧
  sSm (fun p => if a 2 289 p = 0 then 0 else if a 2 292 p = -1 then a 2 291 p else a 2 292 p) 4 ≤ 24 ∧
  ((0 ≤ a 1559 282 0 ∧ a 1559 282 0 ≤ 50) ∧ ∀ i, 0 ≤ i → i < a 1559 282 0 → (0 ≤ a 2 334 i ∧ a 2 334 i < 4) ∧ 0 ≤ a 2 335 i ∧ a 2 335 i ≤ 7) ∧
  (∀ p, 0 ≤ p → p < 4 → (0 ≤ a 2 329 p ∧ a 2 329 p ≤ 24) ∧ ∀ k, 0 ≤ k → k < a 2 329 p → -1 ≤ a 2 327 (24 * p + k) ∧ a 2 327 (24 * p + k) ≤ 131) ∧
  ∀ l x, 0 ≤ l → l < a 1504 282 0 → 0 ≤ x → x < a 2 284 l → 0 ≤ a 2 283 (80 * l + x) ∧ a 2 283 (80 * l + x) ≤ 127
/-- what a call threw is set -/
def th (k : Int) (a : vH) : vH := vup a 1500 282 0 k
section CUR
variable {h h1 a b : vH} {p P l x y : Int}
theorem eqB_up {r v : Int} (z : eqB p a b) (hr : 305 ≤ r ∧ r ≤ 309) : eqB p a (vup b 2 r p v) := fun k q i e => (if_neg (fun w => e ⟨w.1, by omega, by omega, w.2.2⟩)).trans (z k q i e)
theorem eqB_tr {c : vH} (u : eqB p a b) (v : eqB p b c) : eqB p a c := fun k r i e => (v k r i e).trans (u k r i e)
theorem eqB_go : eqB p a (tGo a p l x) := eqB_up (eqB_up eqB_rf (by decide)) (by decide)
theorem eqB_wn {v : Int} : eqB p a (tWn a p v) := eqB_up eqB_rf (by decide)
theorem eqB_top {r : Int} : eqB p a (tTop a p r) := eqB_up (eqB_up eqB_rf (by decide)) (by decide)
theorem eqB_ch : eqB p a (tCh a p l x) := by
  unfold tCh
  split
  · exact eqB_rf
  · exact eqB_go
theorem eqB_lk : eqB p a (tLk a p) := by
  unfold tLk
  split
  · split
    · exact eqB_rf
    · exact eqB_top
  · exact eqB_top
theorem eqB_M2 {mv : Int} : eqB p a (tM2 a p mv) := by
  unfold tM2 tM1
  split
  · exact eqB_tr eqB_ch eqB_wn
  · exact eqB_tr eqB_ch eqB_wn
theorem eqB_Mk {mv : Int} : eqB p a (tMk a p mv) := by
  unfold tMk
  split
  · exact eqB_M2
  · exact eqB_tr eqB_M2 eqB_lk
theorem iH_of {a b : vH} (e : ∀ r i : Int, (283 ≤ r ∧ r ≤ 304 ∨ 310 = r ∨ r = 327 ∨ r = 329 ∨ r = 334 ∨ r = 335) → b 2 r i = a 2 r i) (eg : b 1559 282 0 = a 1559 282 0) (el : b 1504 282 0 = a 1504 282 0) (i : iH a) : iH b := by
  have R : ∀ r : Int, (283 ≤ r ∧ r ≤ 304 ∨ 310 = r ∨ r = 327 ∨ r = 329 ∨ r = 334 ∨ r = 335) → b 2 r = a 2 r := fun r hr => funext (fun i => e r i hr)
  unfold iH at i ⊢
  rw [R 289 (by decide), R 290 (by decide), R 291 (by decide), R 292 (by decide), R 310 (by decide), R 334 (by decide), R 335 (by decide), R 329 (by decide), R 327 (by decide), R 284 (by decide), R 283 (by decide), eg, el]
  exact i
theorem iH_B (z : eqB p a b) (i : iH a) : iH b := iH_of (fun r j hr => z 2 r j (by omega)) (z _ _ _ (by omega)) (z _ _ _ (by omega)) i
theorem iH_th {k : Int} (i : iH a) : iH (th k a) := iH_of (fun r j hr => vup_k (by decide)) (vup_k (by decide)) (vup_k (by decide)) i
theorem cAll_th {k : Int} (c : cAll h a) : cAll h (th k a) := cAll_rfE (fun q r i h1 h2 h3 h4 => if_neg (fun z => h4 ⟨z.2.1, by rw [z.1]; decide⟩)) (mF_sx (K := sT) (A := sA) fine_F (by decide)) c
theorem iG_tk {k : Int} (g : iG a) : iG (th k a) := iG_sT fine_F g
theorem hO (i : iH a) (hp : 0 ≤ p ∧ p < 4) (ho : ¬ a 2 289 p = 0) : 1 ≤ a 2 310 p ∧ a 2 310 p ≤ 24 := ⟨(i.2.2.1 p hp.1 hp.2).2 ho, (i.2.2.1 p hp.1 hp.2).1.2⟩
theorem C_isOpen (c : cAll h a) (hp : 0 ≤ p ∧ p < 4) : fX9_isOpen h p = if a 2 289 p = 0 then 0 else 1 := by
  have e := (c.2.2.2.1 p hp.1 hp.2).1.1
  unfold fX9_isOpen
  rw [e]
  by_cases z : a 2 289 p = 0
  · rw [if_pos z, if_neg (fun w => w.2 z)]
  · rw [if_neg z, if_pos ⟨by omega, z⟩]
theorem C_chkState {v : Int} : (¬ v = 0 → vcl mX12_checkState [(1, 3), (0, v)] h = some (.inl none, h)) ∧ (v = 0 → vcl mX12_checkState [(1, 3), (0, v)] h = some (.inr "java/lang/IllegalStateException", vexc h)) := ⟨fun z => (show _ = _ from rX12_checkState_0).trans (if_neg z), fun z => (show _ = _ from rX12_checkState_0).trans (if_pos z)⟩
end CUR

