/-! the calls that only ask -/
def kR (h h1 : vH) : Prop := ∀ (k : Nat) (r i : Int), (r = 1 ∨ r = 2 ∨ (282 ≤ r ∧ r ≤ 281) ∨ (k = 101 ∧ 138 ≤ r) ∨ ((k = 0 ∨ k = 1) ∧ 282 ≤ r)) → h1 k r i = h k r i
def ct (h h1 : vH) : Prop := h1 4 0 0 ≤ h 4 0 0 + 4 ∧ h1 5 0 0 ≤ h 5 0 0 + 40
def e3 (k : Int) : String := if k = 1 then "java/lang/IndexOutOfBoundsException" else if k = 2 then "java/lang/IllegalArgumentException" else "java/lang/IllegalStateException"
def e2 (k : Int) : String := if k = 1 then "java/lang/IndexOutOfBoundsException" else "java/lang/IllegalStateException"
def cOut (h b : vH) (k v : Int) (E : Int → String) (X : Option (vR × vH)) : Prop := ∃ h1 : vH, X = some (if k = 0 then .inl (some (0, v)) else .inr (E k), h1) ∧ cAll h1 b ∧ kR h h1 ∧ ct h h1
section QRY
variable {h h1 a b : vH} {p P : Int}
theorem fine_F {k : Int} : mF sA sT h (vup h 1500 282 0 k) := mF_up mF_rf (Or.inr ⟨rfl, by simp⟩)
theorem cO_eq {b : vH} {k v : Int} {E : Int → String} {X Y : Option (vR × vH)} (e : X = Y) (m : cOut h b k v E Y) : cOut h b k v E X := by rw [e]; exact m
/-- the class -/
theorem kR_qC (hp : 0 ≤ p ∧ p < 4) (x : qC (138 + 36 * p) h h1) : kR h h1 ∧ h1 4 0 0 = h 4 0 0 ∧ h1 5 0 0 = h 5 0 0 := ⟨fun k r i u => x k r i (by omega), x _ _ _ (by omega), x _ _ _ (by omega)⟩
theorem cO_x {k v : Int} {E : Int → String} (c : cAll h1 a) (r : kR h h1 ∧ h1 4 0 0 = h 4 0 0 ∧ h1 5 0 0 = h 5 0 0) (hk : ¬ k = 0) {s : String} (es : s = E k) : cOut h a k v E (some (.inr s, vexc h1)) := by
  have e4 : vexc h1 4 0 0 = h1 4 0 0 + 1 := if_pos ⟨rfl, rfl, rfl⟩
  have e5 : vexc h1 5 0 0 = h1 5 0 0 + 6 := (if_neg (fun z => absurd z.2.2 (by decide))).trans (if_pos ⟨rfl, rfl, rfl⟩)
  refine ⟨vexc h1, by rw [if_neg hk, es], cAll_kC kC_exc c, fun k q i u => ?_, by omega, by omega⟩
  refine Eq.trans ?_ (r.1 k q i u)
  unfold vexc
  rw [if_neg (by omega), if_neg (by omega)]
theorem cO_v {v : Int} {E : Int → String} (c : cAll h1 b) (r : kR h h1 ∧ h1 4 0 0 = h 4 0 0 ∧ h1 5 0 0 = h 5 0 0) : cOut h b 0 v E (some (.inl (some (0, v)), h1)) := ⟨h1, by rw [if_pos rfl], c, r.1, by omega, by omega⟩
theorem cR_rf : kR h h ∧ h 4 0 0 = h 4 0 0 ∧ h 5 0 0 = h 5 0 0 := ⟨fun _ _ _ _ => rfl, rfl, rfl⟩
theorem eqB_rf : eqB p a a := fun _ _ _ _ => rfl
theorem cAll_sh (c : cAll h a) : shPL h ∧ shStack h := ⟨c.1, c.1.2.2.2.2.2.2.2.1⟩
theorem cRd_Pan (c : cRd h a p (138 + 36 * p)) : cPan h a p := ⟨c.2.1, c.2.2.1, c.2.2.2.1⟩
theorem C_paneOf (c : cAll h a) (hp : 0 ≤ p ∧ p < 4) : vcl mX12_paneOf [(1, 3), (0, p)] h = some (.inl (some (1, 138 + 36 * p)), h) := by
  refine (rX12_paneOf_0 c.1).trans ?_
  rw [if_neg (by omega), if_pos (by omega), (c.2.2.1 p hp.1 hp.2).1]
theorem C_paneOfX (c : cAll h a) (hp : ¬ (0 ≤ p ∧ p < 4)) : vcl mX12_paneOf [(1, 3), (0, p)] h = some (.inr "java/lang/IndexOutOfBoundsException", vexc h) := by
  refine (rX12_paneOf_0 c.1).trans ?_
  by_cases z : p < 0
  · rw [if_pos z]
  · rw [if_neg z, if_neg (by omega)]
theorem C_laidX (c : cAll h a) (hp : ¬ (0 ≤ p ∧ p < 4)) : vcl mX12_laidPane [(1, 3), (0, p)] h = some (.inr "java/lang/IndexOutOfBoundsException", vexc h) := (rX12_laidPane_0 c.1).trans (vret_x (C_paneOfX c hp) rfl)
theorem C_laid (c : cAll h a) (g : iG a) (hp : 0 ≤ p ∧ p < 4) : ∃ h1, vcl mX12_laidPane [(1, 3), (0, p)] h = some (.inl (some (1, 138 + 36 * p)), h1) ∧ qC (138 + 36 * p) h h1 ∧ cAll h1 a ∧ cRd h1 a p (138 + 36 * p) := by
  obtain ⟨k1, k2, k3⟩ := (c.2.2.1 p hp.1 hp.2).2.1
  obtain ⟨h1, r1, r2, r3, r4, r5⟩ := C_refresh g hp (P := 138 + 36 * p) (by omega) c.2.1 k1 k2 k3
  have F := cFix_qF r2 k1.1 k1
  have T := cTx_qF r2 (by omega) c.2.1
  exact ⟨h1, (rX12_laidPane_0 c.1).trans ((vret_v (C_paneOf c hp)).trans ((rX12_laidPane_5 k1.1).trans ((vret_n r1).trans rX12_laidPane_10))), qF_C r2, cAll_qC hp (qF_C r2) eqB_rf c ⟨F, r3, r4⟩ T, T, F, r3, r4, r5⟩
/-- after a question to the pane -/
theorem cAll_qM (hp : 0 ≤ p ∧ p < 4) (x : qM (138 + 36 * p) h h1) (c : cAll h a) (r : cRd h1 a p (138 + 36 * p)) : cAll h1 a := cAll_qC hp (qM_C x) eqB_rf c (cRd_Pan r) r.1
theorem C_chkRange {v l m : Int} : (l ≤ v ∧ v ≤ m → vcl mX12_checkRange [(1, 3), (0, v), (0, l), (0, m)] h = some (.inl none, h)) ∧ (¬ (l ≤ v ∧ v ≤ m) → vcl mX12_checkRange [(1, 3), (0, v), (0, l), (0, m)] h = some (.inr "java/lang/IllegalArgumentException", vexc h)) := by
  constructor
  · intro z
    refine (show _ = _ from rX12_checkRange_0).trans ?_
    rw [if_neg (by omega), if_pos z.2]
  · intro z
    refine (show _ = _ from rX12_checkRange_0).trans ?_
    by_cases y : v < l
    · rw [if_pos y]
    · rw [if_neg y, if_neg (by omega)]
theorem C_chkLine (c : cAll h a) {l : Int} : ((0 ≤ l ∧ l < a 1504 282 0) → vcl mX12_checkLine [(1, 3), (0, l)] h = some (.inl none, h)) ∧ (¬ (0 ≤ l ∧ l < a 1504 282 0) → vcl mX12_checkLine [(1, 3), (0, l)] h = some (.inr "java/lang/IndexOutOfBoundsException", vexc h)) := by
  have n := c.2.1.2.1.1
  constructor
  · intro z
    refine (show _ = _ from rX12_checkLine_0 c.1 c.2.1.1).trans ?_
    rw [if_neg (by omega), if_pos (by omega)]
  · intro z
    refine (show _ = _ from rX12_checkLine_0 c.1 c.2.1.1).trans ?_
    by_cases y : l < 0
    · rw [if_pos y]
    · rw [if_neg y, if_neg (by omega)]
theorem C_lineOf (c : cAll h a) {l : Int} (hl : 0 ≤ l ∧ l < a 1504 282 0) : vcl mX12_lineOf [(1, 3), (0, l)] h = some (.inl (some (1, h 2 5 l)), h) ∧ shLine h (h 2 5 l) ∧ h 601 (h 2 5 l) 0 = a 2 284 l := by
  have e := C_at c.2.1 hl
  have d := c.2.1.2.2.2.2 l hl.1 hl.2
  refine ⟨(rX12_lineOf_0 c.1).trans ((vret_n ((C_chkLine c).1 hl)).trans ((rX12_lineOf_5 c.1 c.2.1.1).trans ?_)), d.1.1, d.1.2.1⟩
  rw [e]
theorem C_lineOfX (c : cAll h a) {l : Int} (hl : ¬ (0 ≤ l ∧ l < a 1504 282 0)) : vcl mX12_lineOf [(1, 3), (0, l)] h = some (.inr "java/lang/IndexOutOfBoundsException", vexc h) := (rX12_lineOf_0 c.1).trans (vret_x ((C_chkLine c).2 hl) rfl)
theorem C_chkRow (c : cRd h a p P) {r : Int} : (isRw a p r → vcl mX12_checkRow [(1, 3), (1, P), (0, r)] h = some (.inl none, h)) ∧ (¬ isRw a p r → vcl mX12_checkRow [(1, 3), (1, P), (0, r)] h = some (.inr "java/lang/IndexOutOfBoundsException", vexc h)) := by
  have n := (cRd_n c).1
  rw [isRw_all]
  constructor
  · intro z
    refine (show _ = _ from rX12_checkRow_0 c.2.1.1).trans ?_
    rw [if_neg (by omega), if_pos (by omega)]
  · intro z
    refine (show _ = _ from rX12_checkRow_0 c.2.1.1).trans ?_
    by_cases y : r < 0
    · rw [if_pos y]
    · rw [if_neg y, if_neg (by omega)]
theorem Cq_lines (c : cAll h a) : cOut h a 0 (a 1504 282 0) e3 (vcl mX12_lines [(1, 3)] h) := by
  rw [spX12_lines c.1 c.2.1.1, c.2.1.2.1.1]
  exact cO_v c cR_rf
/-- length -/
noncomputable def kLn (a : vH) (l : Int) : Int := if 0 ≤ l ∧ l < a 1504 282 0 then 0 else 1
theorem Cq_length (c : cAll h a) {l : Int} : cOut h a (kLn a l) (a 2 284 l) e3 (vcl mX12_length [(1, 3), (0, l)] h) := by
  unfold kLn
  by_cases z : 0 ≤ l ∧ l < a 1504 282 0
  · obtain ⟨d1, d2, d3⟩ := C_lineOf c z
    rw [if_pos z]
    have : vcl mX12_length [(1, 3), (0, l)] h = some (.inl (some (0, a 2 284 l)), h) := (rX12_length_0 c.1).trans ((vret_v d1).trans ((rX12_length_5 d2).trans (by rw [d3])))
    rw [this]
    exact cO_v c cR_rf
  · rw [if_neg z]
    have : vcl mX12_length [(1, 3), (0, l)] h = _ := (rX12_length_0 c.1).trans (vret_x (C_lineOfX c z) rfl)
    rw [this]
    exact cO_x c cR_rf (by decide) rfl
/-- rows -/
def kPn (p : Int) : Int := if 0 ≤ p ∧ p < 4 then 0 else 1
theorem Cq_rows (c : cAll h a) (g : iG a) : cOut h a (kPn p) (mAll a p) e3 (vcl mX12_rows [(1, 3), (0, p)] h) := by
  unfold kPn
  by_cases z : 0 ≤ p ∧ p < 4
  · obtain ⟨h1, d1, d2, d3, d4⟩ := C_laid c g z
    rw [if_pos z]
    have : vcl mX12_rows [(1, 3), (0, p)] h = some (.inl (some (0, mAll a p)), h1) := (rX12_rows_0 c.1).trans ((vret_v d1).trans ((rX12_rows_5 d4.2.1.1).trans (by rw [(cRd_n d4).1])))
    rw [this]
    exact cO_v d3 (kR_qC z d2)
  · rw [if_neg z]
    have : vcl mX12_rows [(1, 3), (0, p)] h = _ := (rX12_rows_0 c.1).trans (vret_x (C_laidX c z) rfl)
    rw [this]
    exact cO_x c cR_rf (by decide) rfl
end QRY

