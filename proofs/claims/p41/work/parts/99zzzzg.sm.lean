theorem ru_eq {X : Option (vR × vH)} {r1 : vR} {h1 : vH} (x : Ru (fun r h' => r = r1 ∧ h' = h1) X) : X = some (r1, h1) := by
  obtain ⟨r, h', e, rfl, rfl⟩ := x
  exact e
def Q1 (n m : Int) (a : vH) : vR → vH → Prop := fun r h => r = .inl (some (0, 1)) ∧ JG n m h a
theorem ru_1 {n m : Int} {a : vH} {X : Option (vR × vH)} (x : Ru (Q1 n m a) X) : ∃ h1, X = some (.inl (some (0, 1)), h1) ∧ JG n m h1 a := by
  obtain ⟨r, h', e, rfl, j⟩ := x
  exact ⟨h', e, j⟩
theorem S_c0 {h a : vH} {n m p : Int} (j : JG n m h a) (hp : 0 ≤ p ∧ p < 4) : ∃ h1, vcl mX12_cursor [(1, 3), (0, p), (0, 0)] h = some (.inl (some (0, cuL a p)), h1) ∧ JG n (m + 1) h1 a := S_cursor j hp (by decide)
theorem S_c1 {h a : vH} {n m p : Int} (j : JG n m h a) (hp : 0 ≤ p ∧ p < 4) : ∃ h1, vcl mX12_cursor [(1, 3), (0, p), (0, 1)] h = some (.inl (some (0, cuX a p)), h1) ∧ JG n (m + 1) h1 a := S_cursor j hp (by decide)
theorem S_c2 {h a : vH} {n m p : Int} (j : JG n m h a) (hp : 0 ≤ p ∧ p < 4) : ∃ h1, vcl mX12_cursor [(1, 3), (0, p), (0, 2)] h = some (.inl (some (0, cuR a p)), h1) ∧ JG n (m + 1) h1 a := S_cursor j hp (by decide)
theorem S_c3 {h a : vH} {n m p : Int} (j : JG n m h a) (hp : 0 ≤ p ∧ p < 4) : ∃ h1, vcl mX12_cursor [(1, 3), (0, p), (0, 3)] h = some (.inl (some (0, cuC a p)), h1) ∧ JG n (m + 1) h1 a := S_cursor j hp (by decide)
theorem S_c4 {h a : vH} {n m p : Int} (j : JG n m h a) (hp : 0 ≤ p ∧ p < 4) : ∃ h1, vcl mX12_cursor [(1, 3), (0, p), (0, 4)] h = some (.inl (some (0, a 2 307 p)), h1) ∧ JG n (m + 1) h1 a := S_cursor j hp (by decide)
theorem S_c5 {h a : vH} {n m p : Int} (j : JG n m h a) (hp : 0 ≤ p ∧ p < 4) : ∃ h1, vcl mX12_cursor [(1, 3), (0, p), (0, 5)] h = some (.inl (some (0, toR a p)), h1) ∧ JG n (m + 1) h1 a := S_cursor j hp (by decide)
theorem bL_on : vmB mL_on = cL_on := rfl
theorem bL_asks : vmB mL_asks = cL_asks := rfl
theorem bL_virtuals : vmB mL_virtuals = cL_virtuals := rfl
theorem bL_closes : vmB mL_closes = cL_closes := rfl
theorem bL_isScreen : vmB mL_isScreen = cL_isScreen := rfl
theorem bL_areRows : vmB mL_areRows = cL_areRows := rfl
theorem bL_isMove : vmB mL_isMove = cL_isMove := rfl
theorem bL_isDrawn : vmB mL_isDrawn = cL_isDrawn := rfl
theorem bL_law : vmB mL_law = cL_law := rfl
theorem asv_insert {h h1 : vH} {b c d f v : Int} (s : h 0 3 0 = 33) (e : vcl mX12_insert [(1, 3), (0, b), (0, c), (0, d)] h = some (.inl (some (0, v)), h1)) : vcl mL_asks [(1, 3), (0, 0), (0, b), (0, c), (0, d), (0, f)] h = some (.inl (some (0, v)), h1) := by
  refine ru_eq ?_
  refine ru (show _ = vrun mL_asks 0 [(1, 3), (0, 0), (0, b), (0, c), (0, d), (0, f)] [] h from rfl) ?_
  refine ru (rn_iload_n (pc := 0) (dd bL_asks dL_asks_0) rfl) ?_
  refine ru ((rn_if_ne (t := 15) (pc := 1) (dd bL_asks dL_asks_1) rfl).trans (if_neg (by decide))) ?_
  refine ru (rn_aload_n (pc := 4) (dd bL_asks dL_asks_4) rfl) ?_
  refine ru (rn_iload_n (pc := 5) (dd bL_asks dL_asks_5) rfl) ?_
  refine ru (rn_iload_n (pc := 6) (dd bL_asks dL_asks_6) rfl) ?_
  refine ru (rn_iload (pc := 7) (dd bL_asks dL_asks_7) rfl) ?_
  refine ru ((rg_virtual (pc := 9) (dd bL_asks dL_asks_9) rfl rfl (by decide) (kc := 33) rfl (s) (as := [(1, 3), (0, b), (0, c), (0, d)]) rfl ⟨Nat.le_of_ble_eq_true rfl, Nat.le_of_ble_eq_true rfl, Nat.le_of_ble_eq_true rfl, Nat.le_of_ble_eq_true rfl⟩).trans (vret_v e)) ?_
  refine ru (rn_goto (t := 174) (pc := 12) (dd bL_asks dL_asks_12) rfl) ?_
  exact ru_end (rn_ireturn (pc := 174) (dd bL_asks dL_asks_174) (Or.inl rfl)) ⟨rfl, rfl⟩

theorem asx_insert {h h1 : vH} {b c d f : Int} {E : String} (s : h 0 3 0 = 33) (e : vcl mX12_insert [(1, 3), (0, b), (0, c), (0, d)] h = some (.inr E, h1)) : vcl mL_asks [(1, 3), (0, 0), (0, b), (0, c), (0, d), (0, f)] h = some (.inr E, h1) := by
  refine ru_eq ?_
  refine ru (show _ = vrun mL_asks 0 [(1, 3), (0, 0), (0, b), (0, c), (0, d), (0, f)] [] h from rfl) ?_
  refine ru (rn_iload_n (pc := 0) (dd bL_asks dL_asks_0) rfl) ?_
  refine ru ((rn_if_ne (t := 15) (pc := 1) (dd bL_asks dL_asks_1) rfl).trans (if_neg (by decide))) ?_
  refine ru (rn_aload_n (pc := 4) (dd bL_asks dL_asks_4) rfl) ?_
  refine ru (rn_iload_n (pc := 5) (dd bL_asks dL_asks_5) rfl) ?_
  refine ru (rn_iload_n (pc := 6) (dd bL_asks dL_asks_6) rfl) ?_
  refine ru (rn_iload (pc := 7) (dd bL_asks dL_asks_7) rfl) ?_
  exact ru_end ((rg_virtual (pc := 9) (dd bL_asks dL_asks_9) rfl rfl (by decide) (kc := 33) rfl (s) (as := [(1, 3), (0, b), (0, c), (0, d)]) rfl ⟨Nat.le_of_ble_eq_true rfl, Nat.le_of_ble_eq_true rfl, Nat.le_of_ble_eq_true rfl, Nat.le_of_ble_eq_true rfl⟩).trans (vret_x e rfl)) ⟨rfl, rfl⟩

theorem asv_breakLine {h h1 : vH} {b c d f v : Int} (s : h 0 3 0 = 33) (e : vcl mX12_breakLine [(1, 3), (0, b), (0, c)] h = some (.inl (some (0, v)), h1)) : vcl mL_asks [(1, 3), (0, 1), (0, b), (0, c), (0, d), (0, f)] h = some (.inl (some (0, v)), h1) := by
  refine ru_eq ?_
  refine ru (show _ = vrun mL_asks 0 [(1, 3), (0, 1), (0, b), (0, c), (0, d), (0, f)] [] h from rfl) ?_
  refine ru (rn_iload_n (pc := 0) (dd bL_asks dL_asks_0) rfl) ?_
  refine ru ((rn_if_ne (t := 15) (pc := 1) (dd bL_asks dL_asks_1) rfl).trans (if_pos (by decide))) ?_
  refine ru (rn_iload_n (pc := 15) (dd bL_asks dL_asks_15) rfl) ?_
  refine ru (rn_iconst (pc := 16) (dd bL_asks dL_asks_16) (by decide)) ?_
  refine ru ((rn_icmp_ne (t := 29) (pc := 17) (dd bL_asks dL_asks_17) rfl).trans (if_neg (by decide))) ?_
  refine ru (rn_aload_n (pc := 20) (dd bL_asks dL_asks_20) rfl) ?_
  refine ru (rn_iload_n (pc := 21) (dd bL_asks dL_asks_21) rfl) ?_
  refine ru (rn_iload_n (pc := 22) (dd bL_asks dL_asks_22) rfl) ?_
  refine ru ((rg_virtual (pc := 23) (dd bL_asks dL_asks_23) rfl rfl (by decide) (kc := 33) rfl (s) (as := [(1, 3), (0, b), (0, c)]) rfl ⟨Nat.le_of_ble_eq_true rfl, Nat.le_of_ble_eq_true rfl, Nat.le_of_ble_eq_true rfl, Nat.le_of_ble_eq_true rfl⟩).trans (vret_v e)) ?_
  refine ru (rn_goto (t := 174) (pc := 26) (dd bL_asks dL_asks_26) rfl) ?_
  exact ru_end (rn_ireturn (pc := 174) (dd bL_asks dL_asks_174) (Or.inl rfl)) ⟨rfl, rfl⟩

theorem asx_breakLine {h h1 : vH} {b c d f : Int} {E : String} (s : h 0 3 0 = 33) (e : vcl mX12_breakLine [(1, 3), (0, b), (0, c)] h = some (.inr E, h1)) : vcl mL_asks [(1, 3), (0, 1), (0, b), (0, c), (0, d), (0, f)] h = some (.inr E, h1) := by
  refine ru_eq ?_
  refine ru (show _ = vrun mL_asks 0 [(1, 3), (0, 1), (0, b), (0, c), (0, d), (0, f)] [] h from rfl) ?_
  refine ru (rn_iload_n (pc := 0) (dd bL_asks dL_asks_0) rfl) ?_
  refine ru ((rn_if_ne (t := 15) (pc := 1) (dd bL_asks dL_asks_1) rfl).trans (if_pos (by decide))) ?_
  refine ru (rn_iload_n (pc := 15) (dd bL_asks dL_asks_15) rfl) ?_
  refine ru (rn_iconst (pc := 16) (dd bL_asks dL_asks_16) (by decide)) ?_
  refine ru ((rn_icmp_ne (t := 29) (pc := 17) (dd bL_asks dL_asks_17) rfl).trans (if_neg (by decide))) ?_
  refine ru (rn_aload_n (pc := 20) (dd bL_asks dL_asks_20) rfl) ?_
  refine ru (rn_iload_n (pc := 21) (dd bL_asks dL_asks_21) rfl) ?_
  refine ru (rn_iload_n (pc := 22) (dd bL_asks dL_asks_22) rfl) ?_
  exact ru_end ((rg_virtual (pc := 23) (dd bL_asks dL_asks_23) rfl rfl (by decide) (kc := 33) rfl (s) (as := [(1, 3), (0, b), (0, c)]) rfl ⟨Nat.le_of_ble_eq_true rfl, Nat.le_of_ble_eq_true rfl, Nat.le_of_ble_eq_true rfl, Nat.le_of_ble_eq_true rfl⟩).trans (vret_x e rfl)) ⟨rfl, rfl⟩

theorem asv_join {h h1 : vH} {b c d f v : Int} (s : h 0 3 0 = 33) (e : vcl mX12_join [(1, 3), (0, b)] h = some (.inl (some (0, v)), h1)) : vcl mL_asks [(1, 3), (0, 2), (0, b), (0, c), (0, d), (0, f)] h = some (.inl (some (0, v)), h1) := by
  refine ru_eq ?_
  refine ru (show _ = vrun mL_asks 0 [(1, 3), (0, 2), (0, b), (0, c), (0, d), (0, f)] [] h from rfl) ?_
  refine ru (rn_iload_n (pc := 0) (dd bL_asks dL_asks_0) rfl) ?_
  refine ru ((rn_if_ne (t := 15) (pc := 1) (dd bL_asks dL_asks_1) rfl).trans (if_pos (by decide))) ?_
  refine ru (rn_iload_n (pc := 15) (dd bL_asks dL_asks_15) rfl) ?_
  refine ru (rn_iconst (pc := 16) (dd bL_asks dL_asks_16) (by decide)) ?_
  refine ru ((rn_icmp_ne (t := 29) (pc := 17) (dd bL_asks dL_asks_17) rfl).trans (if_pos (by decide))) ?_
  refine ru (rn_iload_n (pc := 29) (dd bL_asks dL_asks_29) rfl) ?_
  refine ru (rn_iconst (pc := 30) (dd bL_asks dL_asks_30) (by decide)) ?_
  refine ru ((rn_icmp_ne (t := 42) (pc := 31) (dd bL_asks dL_asks_31) rfl).trans (if_neg (by decide))) ?_
  refine ru (rn_aload_n (pc := 34) (dd bL_asks dL_asks_34) rfl) ?_
  refine ru (rn_iload_n (pc := 35) (dd bL_asks dL_asks_35) rfl) ?_
  refine ru ((rg_virtual (pc := 36) (dd bL_asks dL_asks_36) rfl rfl (by decide) (kc := 33) rfl (s) (as := [(1, 3), (0, b)]) rfl ⟨Nat.le_of_ble_eq_true rfl, Nat.le_of_ble_eq_true rfl, Nat.le_of_ble_eq_true rfl, Nat.le_of_ble_eq_true rfl⟩).trans (vret_v e)) ?_
  refine ru (rn_goto (t := 174) (pc := 39) (dd bL_asks dL_asks_39) rfl) ?_
  exact ru_end (rn_ireturn (pc := 174) (dd bL_asks dL_asks_174) (Or.inl rfl)) ⟨rfl, rfl⟩

theorem asx_join {h h1 : vH} {b c d f : Int} {E : String} (s : h 0 3 0 = 33) (e : vcl mX12_join [(1, 3), (0, b)] h = some (.inr E, h1)) : vcl mL_asks [(1, 3), (0, 2), (0, b), (0, c), (0, d), (0, f)] h = some (.inr E, h1) := by
  refine ru_eq ?_
  refine ru (show _ = vrun mL_asks 0 [(1, 3), (0, 2), (0, b), (0, c), (0, d), (0, f)] [] h from rfl) ?_
  refine ru (rn_iload_n (pc := 0) (dd bL_asks dL_asks_0) rfl) ?_
  refine ru ((rn_if_ne (t := 15) (pc := 1) (dd bL_asks dL_asks_1) rfl).trans (if_pos (by decide))) ?_
  refine ru (rn_iload_n (pc := 15) (dd bL_asks dL_asks_15) rfl) ?_
  refine ru (rn_iconst (pc := 16) (dd bL_asks dL_asks_16) (by decide)) ?_
  refine ru ((rn_icmp_ne (t := 29) (pc := 17) (dd bL_asks dL_asks_17) rfl).trans (if_pos (by decide))) ?_
  refine ru (rn_iload_n (pc := 29) (dd bL_asks dL_asks_29) rfl) ?_
  refine ru (rn_iconst (pc := 30) (dd bL_asks dL_asks_30) (by decide)) ?_
  refine ru ((rn_icmp_ne (t := 42) (pc := 31) (dd bL_asks dL_asks_31) rfl).trans (if_neg (by decide))) ?_
  refine ru (rn_aload_n (pc := 34) (dd bL_asks dL_asks_34) rfl) ?_
  refine ru (rn_iload_n (pc := 35) (dd bL_asks dL_asks_35) rfl) ?_
  exact ru_end ((rg_virtual (pc := 36) (dd bL_asks dL_asks_36) rfl rfl (by decide) (kc := 33) rfl (s) (as := [(1, 3), (0, b)]) rfl ⟨Nat.le_of_ble_eq_true rfl, Nat.le_of_ble_eq_true rfl, Nat.le_of_ble_eq_true rfl, Nat.le_of_ble_eq_true rfl⟩).trans (vret_x e rfl)) ⟨rfl, rfl⟩

theorem asv_open {h h1 : vH} {b c d f v : Int} (s : h 0 3 0 = 33) (e : vcl mX12_open [(1, 3), (0, b)] h = some (.inl (some (0, v)), h1)) : vcl mL_asks [(1, 3), (0, 3), (0, b), (0, c), (0, d), (0, f)] h = some (.inl (some (0, v)), h1) := by
  refine ru_eq ?_
  refine ru (show _ = vrun mL_asks 0 [(1, 3), (0, 3), (0, b), (0, c), (0, d), (0, f)] [] h from rfl) ?_
  refine ru (rn_iload_n (pc := 0) (dd bL_asks dL_asks_0) rfl) ?_
  refine ru ((rn_if_ne (t := 15) (pc := 1) (dd bL_asks dL_asks_1) rfl).trans (if_pos (by decide))) ?_
  refine ru (rn_iload_n (pc := 15) (dd bL_asks dL_asks_15) rfl) ?_
  refine ru (rn_iconst (pc := 16) (dd bL_asks dL_asks_16) (by decide)) ?_
  refine ru ((rn_icmp_ne (t := 29) (pc := 17) (dd bL_asks dL_asks_17) rfl).trans (if_pos (by decide))) ?_
  refine ru (rn_iload_n (pc := 29) (dd bL_asks dL_asks_29) rfl) ?_
  refine ru (rn_iconst (pc := 30) (dd bL_asks dL_asks_30) (by decide)) ?_
  refine ru ((rn_icmp_ne (t := 42) (pc := 31) (dd bL_asks dL_asks_31) rfl).trans (if_pos (by decide))) ?_
  refine ru (rn_iload_n (pc := 42) (dd bL_asks dL_asks_42) rfl) ?_
  refine ru (rn_iconst (pc := 43) (dd bL_asks dL_asks_43) (by decide)) ?_
  refine ru ((rn_icmp_ne (t := 55) (pc := 44) (dd bL_asks dL_asks_44) rfl).trans (if_neg (by decide))) ?_
  refine ru (rn_aload_n (pc := 47) (dd bL_asks dL_asks_47) rfl) ?_
  refine ru (rn_iload_n (pc := 48) (dd bL_asks dL_asks_48) rfl) ?_
  refine ru ((rg_virtual (pc := 49) (dd bL_asks dL_asks_49) rfl rfl (by decide) (kc := 33) rfl (s) (as := [(1, 3), (0, b)]) rfl ⟨Nat.le_of_ble_eq_true rfl, Nat.le_of_ble_eq_true rfl, Nat.le_of_ble_eq_true rfl, Nat.le_of_ble_eq_true rfl⟩).trans (vret_v e)) ?_
  refine ru (rn_goto (t := 174) (pc := 52) (dd bL_asks dL_asks_52) rfl) ?_
  exact ru_end (rn_ireturn (pc := 174) (dd bL_asks dL_asks_174) (Or.inl rfl)) ⟨rfl, rfl⟩

theorem asx_open {h h1 : vH} {b c d f : Int} {E : String} (s : h 0 3 0 = 33) (e : vcl mX12_open [(1, 3), (0, b)] h = some (.inr E, h1)) : vcl mL_asks [(1, 3), (0, 3), (0, b), (0, c), (0, d), (0, f)] h = some (.inr E, h1) := by
  refine ru_eq ?_
  refine ru (show _ = vrun mL_asks 0 [(1, 3), (0, 3), (0, b), (0, c), (0, d), (0, f)] [] h from rfl) ?_
  refine ru (rn_iload_n (pc := 0) (dd bL_asks dL_asks_0) rfl) ?_
  refine ru ((rn_if_ne (t := 15) (pc := 1) (dd bL_asks dL_asks_1) rfl).trans (if_pos (by decide))) ?_
  refine ru (rn_iload_n (pc := 15) (dd bL_asks dL_asks_15) rfl) ?_
  refine ru (rn_iconst (pc := 16) (dd bL_asks dL_asks_16) (by decide)) ?_
  refine ru ((rn_icmp_ne (t := 29) (pc := 17) (dd bL_asks dL_asks_17) rfl).trans (if_pos (by decide))) ?_
  refine ru (rn_iload_n (pc := 29) (dd bL_asks dL_asks_29) rfl) ?_
  refine ru (rn_iconst (pc := 30) (dd bL_asks dL_asks_30) (by decide)) ?_
  refine ru ((rn_icmp_ne (t := 42) (pc := 31) (dd bL_asks dL_asks_31) rfl).trans (if_pos (by decide))) ?_
  refine ru (rn_iload_n (pc := 42) (dd bL_asks dL_asks_42) rfl) ?_
  refine ru (rn_iconst (pc := 43) (dd bL_asks dL_asks_43) (by decide)) ?_
  refine ru ((rn_icmp_ne (t := 55) (pc := 44) (dd bL_asks dL_asks_44) rfl).trans (if_neg (by decide))) ?_
  refine ru (rn_aload_n (pc := 47) (dd bL_asks dL_asks_47) rfl) ?_
  refine ru (rn_iload_n (pc := 48) (dd bL_asks dL_asks_48) rfl) ?_
  exact ru_end ((rg_virtual (pc := 49) (dd bL_asks dL_asks_49) rfl rfl (by decide) (kc := 33) rfl (s) (as := [(1, 3), (0, b)]) rfl ⟨Nat.le_of_ble_eq_true rfl, Nat.le_of_ble_eq_true rfl, Nat.le_of_ble_eq_true rfl, Nat.le_of_ble_eq_true rfl⟩).trans (vret_x e rfl)) ⟨rfl, rfl⟩

theorem asv_close {h h1 : vH} {b c d f v : Int} (s : h 0 3 0 = 33) (e : vcl mX12_close [(1, 3), (0, b)] h = some (.inl (some (0, v)), h1)) : vcl mL_asks [(1, 3), (0, 4), (0, b), (0, c), (0, d), (0, f)] h = some (.inl (some (0, v)), h1) := by
  refine ru_eq ?_
  refine ru (show _ = vrun mL_asks 0 [(1, 3), (0, 4), (0, b), (0, c), (0, d), (0, f)] [] h from rfl) ?_
  refine ru (rn_iload_n (pc := 0) (dd bL_asks dL_asks_0) rfl) ?_
  refine ru ((rn_if_ne (t := 15) (pc := 1) (dd bL_asks dL_asks_1) rfl).trans (if_pos (by decide))) ?_
  refine ru (rn_iload_n (pc := 15) (dd bL_asks dL_asks_15) rfl) ?_
  refine ru (rn_iconst (pc := 16) (dd bL_asks dL_asks_16) (by decide)) ?_
  refine ru ((rn_icmp_ne (t := 29) (pc := 17) (dd bL_asks dL_asks_17) rfl).trans (if_pos (by decide))) ?_
  refine ru (rn_iload_n (pc := 29) (dd bL_asks dL_asks_29) rfl) ?_
  refine ru (rn_iconst (pc := 30) (dd bL_asks dL_asks_30) (by decide)) ?_
  refine ru ((rn_icmp_ne (t := 42) (pc := 31) (dd bL_asks dL_asks_31) rfl).trans (if_pos (by decide))) ?_
  refine ru (rn_iload_n (pc := 42) (dd bL_asks dL_asks_42) rfl) ?_
  refine ru (rn_iconst (pc := 43) (dd bL_asks dL_asks_43) (by decide)) ?_
  refine ru ((rn_icmp_ne (t := 55) (pc := 44) (dd bL_asks dL_asks_44) rfl).trans (if_pos (by decide))) ?_
  refine ru (rn_iload_n (pc := 55) (dd bL_asks dL_asks_55) rfl) ?_
  refine ru (rn_iconst (pc := 56) (dd bL_asks dL_asks_56) (by decide)) ?_
  refine ru ((rn_icmp_ne (t := 68) (pc := 57) (dd bL_asks dL_asks_57) rfl).trans (if_neg (by decide))) ?_
  refine ru (rn_aload_n (pc := 60) (dd bL_asks dL_asks_60) rfl) ?_
  refine ru (rn_iload_n (pc := 61) (dd bL_asks dL_asks_61) rfl) ?_
  refine ru ((rg_virtual (pc := 62) (dd bL_asks dL_asks_62) rfl rfl (by decide) (kc := 33) rfl (s) (as := [(1, 3), (0, b)]) rfl ⟨Nat.le_of_ble_eq_true rfl, Nat.le_of_ble_eq_true rfl, Nat.le_of_ble_eq_true rfl, Nat.le_of_ble_eq_true rfl⟩).trans (vret_v e)) ?_
  refine ru (rn_goto (t := 174) (pc := 65) (dd bL_asks dL_asks_65) rfl) ?_
  exact ru_end (rn_ireturn (pc := 174) (dd bL_asks dL_asks_174) (Or.inl rfl)) ⟨rfl, rfl⟩

theorem asx_close {h h1 : vH} {b c d f : Int} {E : String} (s : h 0 3 0 = 33) (e : vcl mX12_close [(1, 3), (0, b)] h = some (.inr E, h1)) : vcl mL_asks [(1, 3), (0, 4), (0, b), (0, c), (0, d), (0, f)] h = some (.inr E, h1) := by
  refine ru_eq ?_
  refine ru (show _ = vrun mL_asks 0 [(1, 3), (0, 4), (0, b), (0, c), (0, d), (0, f)] [] h from rfl) ?_
  refine ru (rn_iload_n (pc := 0) (dd bL_asks dL_asks_0) rfl) ?_
  refine ru ((rn_if_ne (t := 15) (pc := 1) (dd bL_asks dL_asks_1) rfl).trans (if_pos (by decide))) ?_
  refine ru (rn_iload_n (pc := 15) (dd bL_asks dL_asks_15) rfl) ?_
  refine ru (rn_iconst (pc := 16) (dd bL_asks dL_asks_16) (by decide)) ?_
  refine ru ((rn_icmp_ne (t := 29) (pc := 17) (dd bL_asks dL_asks_17) rfl).trans (if_pos (by decide))) ?_
  refine ru (rn_iload_n (pc := 29) (dd bL_asks dL_asks_29) rfl) ?_
  refine ru (rn_iconst (pc := 30) (dd bL_asks dL_asks_30) (by decide)) ?_
  refine ru ((rn_icmp_ne (t := 42) (pc := 31) (dd bL_asks dL_asks_31) rfl).trans (if_pos (by decide))) ?_
  refine ru (rn_iload_n (pc := 42) (dd bL_asks dL_asks_42) rfl) ?_
  refine ru (rn_iconst (pc := 43) (dd bL_asks dL_asks_43) (by decide)) ?_
  refine ru ((rn_icmp_ne (t := 55) (pc := 44) (dd bL_asks dL_asks_44) rfl).trans (if_pos (by decide))) ?_
  refine ru (rn_iload_n (pc := 55) (dd bL_asks dL_asks_55) rfl) ?_
  refine ru (rn_iconst (pc := 56) (dd bL_asks dL_asks_56) (by decide)) ?_
  refine ru ((rn_icmp_ne (t := 68) (pc := 57) (dd bL_asks dL_asks_57) rfl).trans (if_neg (by decide))) ?_
  refine ru (rn_aload_n (pc := 60) (dd bL_asks dL_asks_60) rfl) ?_
  refine ru (rn_iload_n (pc := 61) (dd bL_asks dL_asks_61) rfl) ?_
  exact ru_end ((rg_virtual (pc := 62) (dd bL_asks dL_asks_62) rfl rfl (by decide) (kc := 33) rfl (s) (as := [(1, 3), (0, b)]) rfl ⟨Nat.le_of_ble_eq_true rfl, Nat.le_of_ble_eq_true rfl, Nat.le_of_ble_eq_true rfl, Nat.le_of_ble_eq_true rfl⟩).trans (vret_x e rfl)) ⟨rfl, rfl⟩

theorem asv_share {h h1 : vH} {b c d f v : Int} (s : h 0 3 0 = 33) (e : vcl mX12_share [(1, 3), (0, b), (0, c), (0, d), (0, f)] h = some (.inl (some (0, v)), h1)) : vcl mL_asks [(1, 3), (0, 5), (0, b), (0, c), (0, d), (0, f)] h = some (.inl (some (0, v)), h1) := by
  refine ru_eq ?_
  refine ru (show _ = vrun mL_asks 0 [(1, 3), (0, 5), (0, b), (0, c), (0, d), (0, f)] [] h from rfl) ?_
  refine ru (rn_iload_n (pc := 0) (dd bL_asks dL_asks_0) rfl) ?_
  refine ru ((rn_if_ne (t := 15) (pc := 1) (dd bL_asks dL_asks_1) rfl).trans (if_pos (by decide))) ?_
  refine ru (rn_iload_n (pc := 15) (dd bL_asks dL_asks_15) rfl) ?_
  refine ru (rn_iconst (pc := 16) (dd bL_asks dL_asks_16) (by decide)) ?_
  refine ru ((rn_icmp_ne (t := 29) (pc := 17) (dd bL_asks dL_asks_17) rfl).trans (if_pos (by decide))) ?_
  refine ru (rn_iload_n (pc := 29) (dd bL_asks dL_asks_29) rfl) ?_
  refine ru (rn_iconst (pc := 30) (dd bL_asks dL_asks_30) (by decide)) ?_
  refine ru ((rn_icmp_ne (t := 42) (pc := 31) (dd bL_asks dL_asks_31) rfl).trans (if_pos (by decide))) ?_
  refine ru (rn_iload_n (pc := 42) (dd bL_asks dL_asks_42) rfl) ?_
  refine ru (rn_iconst (pc := 43) (dd bL_asks dL_asks_43) (by decide)) ?_
  refine ru ((rn_icmp_ne (t := 55) (pc := 44) (dd bL_asks dL_asks_44) rfl).trans (if_pos (by decide))) ?_
  refine ru (rn_iload_n (pc := 55) (dd bL_asks dL_asks_55) rfl) ?_
  refine ru (rn_iconst (pc := 56) (dd bL_asks dL_asks_56) (by decide)) ?_
  refine ru ((rn_icmp_ne (t := 68) (pc := 57) (dd bL_asks dL_asks_57) rfl).trans (if_pos (by decide))) ?_
  refine ru (rn_iload_n (pc := 68) (dd bL_asks dL_asks_68) rfl) ?_
  refine ru (rn_iconst (pc := 69) (dd bL_asks dL_asks_69) (by decide)) ?_
  refine ru ((rn_icmp_ne (t := 86) (pc := 70) (dd bL_asks dL_asks_70) rfl).trans (if_neg (by decide))) ?_
  refine ru (rn_aload_n (pc := 73) (dd bL_asks dL_asks_73) rfl) ?_
  refine ru (rn_iload_n (pc := 74) (dd bL_asks dL_asks_74) rfl) ?_
  refine ru (rn_iload_n (pc := 75) (dd bL_asks dL_asks_75) rfl) ?_
  refine ru (rn_iload (pc := 76) (dd bL_asks dL_asks_76) rfl) ?_
  refine ru (rn_iload (pc := 78) (dd bL_asks dL_asks_78) rfl) ?_
  refine ru ((rg_virtual (pc := 80) (dd bL_asks dL_asks_80) rfl rfl (by decide) (kc := 33) rfl (s) (as := [(1, 3), (0, b), (0, c), (0, d), (0, f)]) rfl ⟨Nat.le_of_ble_eq_true rfl, Nat.le_of_ble_eq_true rfl, Nat.le_of_ble_eq_true rfl, Nat.le_of_ble_eq_true rfl⟩).trans (vret_v e)) ?_
  refine ru (rn_goto (t := 174) (pc := 83) (dd bL_asks dL_asks_83) rfl) ?_
  exact ru_end (rn_ireturn (pc := 174) (dd bL_asks dL_asks_174) (Or.inl rfl)) ⟨rfl, rfl⟩

theorem asx_share {h h1 : vH} {b c d f : Int} {E : String} (s : h 0 3 0 = 33) (e : vcl mX12_share [(1, 3), (0, b), (0, c), (0, d), (0, f)] h = some (.inr E, h1)) : vcl mL_asks [(1, 3), (0, 5), (0, b), (0, c), (0, d), (0, f)] h = some (.inr E, h1) := by
  refine ru_eq ?_
  refine ru (show _ = vrun mL_asks 0 [(1, 3), (0, 5), (0, b), (0, c), (0, d), (0, f)] [] h from rfl) ?_
  refine ru (rn_iload_n (pc := 0) (dd bL_asks dL_asks_0) rfl) ?_
  refine ru ((rn_if_ne (t := 15) (pc := 1) (dd bL_asks dL_asks_1) rfl).trans (if_pos (by decide))) ?_
  refine ru (rn_iload_n (pc := 15) (dd bL_asks dL_asks_15) rfl) ?_
  refine ru (rn_iconst (pc := 16) (dd bL_asks dL_asks_16) (by decide)) ?_
  refine ru ((rn_icmp_ne (t := 29) (pc := 17) (dd bL_asks dL_asks_17) rfl).trans (if_pos (by decide))) ?_
  refine ru (rn_iload_n (pc := 29) (dd bL_asks dL_asks_29) rfl) ?_
  refine ru (rn_iconst (pc := 30) (dd bL_asks dL_asks_30) (by decide)) ?_
  refine ru ((rn_icmp_ne (t := 42) (pc := 31) (dd bL_asks dL_asks_31) rfl).trans (if_pos (by decide))) ?_
  refine ru (rn_iload_n (pc := 42) (dd bL_asks dL_asks_42) rfl) ?_
  refine ru (rn_iconst (pc := 43) (dd bL_asks dL_asks_43) (by decide)) ?_
  refine ru ((rn_icmp_ne (t := 55) (pc := 44) (dd bL_asks dL_asks_44) rfl).trans (if_pos (by decide))) ?_
  refine ru (rn_iload_n (pc := 55) (dd bL_asks dL_asks_55) rfl) ?_
  refine ru (rn_iconst (pc := 56) (dd bL_asks dL_asks_56) (by decide)) ?_
  refine ru ((rn_icmp_ne (t := 68) (pc := 57) (dd bL_asks dL_asks_57) rfl).trans (if_pos (by decide))) ?_
  refine ru (rn_iload_n (pc := 68) (dd bL_asks dL_asks_68) rfl) ?_
  refine ru (rn_iconst (pc := 69) (dd bL_asks dL_asks_69) (by decide)) ?_
  refine ru ((rn_icmp_ne (t := 86) (pc := 70) (dd bL_asks dL_asks_70) rfl).trans (if_neg (by decide))) ?_
  refine ru (rn_aload_n (pc := 73) (dd bL_asks dL_asks_73) rfl) ?_
  refine ru (rn_iload_n (pc := 74) (dd bL_asks dL_asks_74) rfl) ?_
  refine ru (rn_iload_n (pc := 75) (dd bL_asks dL_asks_75) rfl) ?_
  refine ru (rn_iload (pc := 76) (dd bL_asks dL_asks_76) rfl) ?_
  refine ru (rn_iload (pc := 78) (dd bL_asks dL_asks_78) rfl) ?_
  exact ru_end ((rg_virtual (pc := 80) (dd bL_asks dL_asks_80) rfl rfl (by decide) (kc := 33) rfl (s) (as := [(1, 3), (0, b), (0, c), (0, d), (0, f)]) rfl ⟨Nat.le_of_ble_eq_true rfl, Nat.le_of_ble_eq_true rfl, Nat.le_of_ble_eq_true rfl, Nat.le_of_ble_eq_true rfl⟩).trans (vret_x e rfl)) ⟨rfl, rfl⟩

theorem asv_put {h h1 : vH} {b c d f v : Int} (s : h 0 3 0 = 33) (e : vcl mX12_put [(1, 3), (0, b), (0, c), (0, d)] h = some (.inl (some (0, v)), h1)) : vcl mL_asks [(1, 3), (0, 6), (0, b), (0, c), (0, d), (0, f)] h = some (.inl (some (0, v)), h1) := by
  refine ru_eq ?_
  refine ru (show _ = vrun mL_asks 0 [(1, 3), (0, 6), (0, b), (0, c), (0, d), (0, f)] [] h from rfl) ?_
  refine ru (rn_iload_n (pc := 0) (dd bL_asks dL_asks_0) rfl) ?_
  refine ru ((rn_if_ne (t := 15) (pc := 1) (dd bL_asks dL_asks_1) rfl).trans (if_pos (by decide))) ?_
  refine ru (rn_iload_n (pc := 15) (dd bL_asks dL_asks_15) rfl) ?_
  refine ru (rn_iconst (pc := 16) (dd bL_asks dL_asks_16) (by decide)) ?_
  refine ru ((rn_icmp_ne (t := 29) (pc := 17) (dd bL_asks dL_asks_17) rfl).trans (if_pos (by decide))) ?_
  refine ru (rn_iload_n (pc := 29) (dd bL_asks dL_asks_29) rfl) ?_
  refine ru (rn_iconst (pc := 30) (dd bL_asks dL_asks_30) (by decide)) ?_
  refine ru ((rn_icmp_ne (t := 42) (pc := 31) (dd bL_asks dL_asks_31) rfl).trans (if_pos (by decide))) ?_
  refine ru (rn_iload_n (pc := 42) (dd bL_asks dL_asks_42) rfl) ?_
  refine ru (rn_iconst (pc := 43) (dd bL_asks dL_asks_43) (by decide)) ?_
  refine ru ((rn_icmp_ne (t := 55) (pc := 44) (dd bL_asks dL_asks_44) rfl).trans (if_pos (by decide))) ?_
  refine ru (rn_iload_n (pc := 55) (dd bL_asks dL_asks_55) rfl) ?_
  refine ru (rn_iconst (pc := 56) (dd bL_asks dL_asks_56) (by decide)) ?_
  refine ru ((rn_icmp_ne (t := 68) (pc := 57) (dd bL_asks dL_asks_57) rfl).trans (if_pos (by decide))) ?_
  refine ru (rn_iload_n (pc := 68) (dd bL_asks dL_asks_68) rfl) ?_
  refine ru (rn_iconst (pc := 69) (dd bL_asks dL_asks_69) (by decide)) ?_
  refine ru ((rn_icmp_ne (t := 86) (pc := 70) (dd bL_asks dL_asks_70) rfl).trans (if_pos (by decide))) ?_
  refine ru (rn_iload_n (pc := 86) (dd bL_asks dL_asks_86) rfl) ?_
  refine ru (rn_bipush (pc := 87) (dd bL_asks dL_asks_87) (by decide)) ?_
  refine ru ((rn_icmp_ne (t := 103) (pc := 89) (dd bL_asks dL_asks_89) rfl).trans (if_neg (by decide))) ?_
  refine ru (rn_aload_n (pc := 92) (dd bL_asks dL_asks_92) rfl) ?_
  refine ru (rn_iload_n (pc := 93) (dd bL_asks dL_asks_93) rfl) ?_
  refine ru (rn_iload_n (pc := 94) (dd bL_asks dL_asks_94) rfl) ?_
  refine ru (rn_iload (pc := 95) (dd bL_asks dL_asks_95) rfl) ?_
  refine ru ((rg_virtual (pc := 97) (dd bL_asks dL_asks_97) rfl rfl (by decide) (kc := 33) rfl (s) (as := [(1, 3), (0, b), (0, c), (0, d)]) rfl ⟨Nat.le_of_ble_eq_true rfl, Nat.le_of_ble_eq_true rfl, Nat.le_of_ble_eq_true rfl, Nat.le_of_ble_eq_true rfl⟩).trans (vret_v e)) ?_
  refine ru (rn_goto (t := 174) (pc := 100) (dd bL_asks dL_asks_100) rfl) ?_
  exact ru_end (rn_ireturn (pc := 174) (dd bL_asks dL_asks_174) (Or.inl rfl)) ⟨rfl, rfl⟩

theorem asx_put {h h1 : vH} {b c d f : Int} {E : String} (s : h 0 3 0 = 33) (e : vcl mX12_put [(1, 3), (0, b), (0, c), (0, d)] h = some (.inr E, h1)) : vcl mL_asks [(1, 3), (0, 6), (0, b), (0, c), (0, d), (0, f)] h = some (.inr E, h1) := by
  refine ru_eq ?_
  refine ru (show _ = vrun mL_asks 0 [(1, 3), (0, 6), (0, b), (0, c), (0, d), (0, f)] [] h from rfl) ?_
  refine ru (rn_iload_n (pc := 0) (dd bL_asks dL_asks_0) rfl) ?_
  refine ru ((rn_if_ne (t := 15) (pc := 1) (dd bL_asks dL_asks_1) rfl).trans (if_pos (by decide))) ?_
  refine ru (rn_iload_n (pc := 15) (dd bL_asks dL_asks_15) rfl) ?_
  refine ru (rn_iconst (pc := 16) (dd bL_asks dL_asks_16) (by decide)) ?_
  refine ru ((rn_icmp_ne (t := 29) (pc := 17) (dd bL_asks dL_asks_17) rfl).trans (if_pos (by decide))) ?_
  refine ru (rn_iload_n (pc := 29) (dd bL_asks dL_asks_29) rfl) ?_
  refine ru (rn_iconst (pc := 30) (dd bL_asks dL_asks_30) (by decide)) ?_
  refine ru ((rn_icmp_ne (t := 42) (pc := 31) (dd bL_asks dL_asks_31) rfl).trans (if_pos (by decide))) ?_
  refine ru (rn_iload_n (pc := 42) (dd bL_asks dL_asks_42) rfl) ?_
  refine ru (rn_iconst (pc := 43) (dd bL_asks dL_asks_43) (by decide)) ?_
  refine ru ((rn_icmp_ne (t := 55) (pc := 44) (dd bL_asks dL_asks_44) rfl).trans (if_pos (by decide))) ?_
  refine ru (rn_iload_n (pc := 55) (dd bL_asks dL_asks_55) rfl) ?_
  refine ru (rn_iconst (pc := 56) (dd bL_asks dL_asks_56) (by decide)) ?_
  refine ru ((rn_icmp_ne (t := 68) (pc := 57) (dd bL_asks dL_asks_57) rfl).trans (if_pos (by decide))) ?_
  refine ru (rn_iload_n (pc := 68) (dd bL_asks dL_asks_68) rfl) ?_
  refine ru (rn_iconst (pc := 69) (dd bL_asks dL_asks_69) (by decide)) ?_
  refine ru ((rn_icmp_ne (t := 86) (pc := 70) (dd bL_asks dL_asks_70) rfl).trans (if_pos (by decide))) ?_
  refine ru (rn_iload_n (pc := 86) (dd bL_asks dL_asks_86) rfl) ?_
  refine ru (rn_bipush (pc := 87) (dd bL_asks dL_asks_87) (by decide)) ?_
  refine ru ((rn_icmp_ne (t := 103) (pc := 89) (dd bL_asks dL_asks_89) rfl).trans (if_neg (by decide))) ?_
  refine ru (rn_aload_n (pc := 92) (dd bL_asks dL_asks_92) rfl) ?_
  refine ru (rn_iload_n (pc := 93) (dd bL_asks dL_asks_93) rfl) ?_
  refine ru (rn_iload_n (pc := 94) (dd bL_asks dL_asks_94) rfl) ?_
  refine ru (rn_iload (pc := 95) (dd bL_asks dL_asks_95) rfl) ?_
  exact ru_end ((rg_virtual (pc := 97) (dd bL_asks dL_asks_97) rfl rfl (by decide) (kc := 33) rfl (s) (as := [(1, 3), (0, b), (0, c), (0, d)]) rfl ⟨Nat.le_of_ble_eq_true rfl, Nat.le_of_ble_eq_true rfl, Nat.le_of_ble_eq_true rfl, Nat.le_of_ble_eq_true rfl⟩).trans (vret_x e rfl)) ⟨rfl, rfl⟩

theorem asv_hide {h h1 : vH} {b c d f v : Int} (s : h 0 3 0 = 33) (e : vcl mX12_hide [(1, 3), (0, b), (0, c), (0, d), (0, f)] h = some (.inl (some (0, v)), h1)) : vcl mL_asks [(1, 3), (0, 7), (0, b), (0, c), (0, d), (0, f)] h = some (.inl (some (0, v)), h1) := by
  refine ru_eq ?_
  refine ru (show _ = vrun mL_asks 0 [(1, 3), (0, 7), (0, b), (0, c), (0, d), (0, f)] [] h from rfl) ?_
  refine ru (rn_iload_n (pc := 0) (dd bL_asks dL_asks_0) rfl) ?_
  refine ru ((rn_if_ne (t := 15) (pc := 1) (dd bL_asks dL_asks_1) rfl).trans (if_pos (by decide))) ?_
  refine ru (rn_iload_n (pc := 15) (dd bL_asks dL_asks_15) rfl) ?_
  refine ru (rn_iconst (pc := 16) (dd bL_asks dL_asks_16) (by decide)) ?_
  refine ru ((rn_icmp_ne (t := 29) (pc := 17) (dd bL_asks dL_asks_17) rfl).trans (if_pos (by decide))) ?_
  refine ru (rn_iload_n (pc := 29) (dd bL_asks dL_asks_29) rfl) ?_
  refine ru (rn_iconst (pc := 30) (dd bL_asks dL_asks_30) (by decide)) ?_
  refine ru ((rn_icmp_ne (t := 42) (pc := 31) (dd bL_asks dL_asks_31) rfl).trans (if_pos (by decide))) ?_
  refine ru (rn_iload_n (pc := 42) (dd bL_asks dL_asks_42) rfl) ?_
  refine ru (rn_iconst (pc := 43) (dd bL_asks dL_asks_43) (by decide)) ?_
  refine ru ((rn_icmp_ne (t := 55) (pc := 44) (dd bL_asks dL_asks_44) rfl).trans (if_pos (by decide))) ?_
  refine ru (rn_iload_n (pc := 55) (dd bL_asks dL_asks_55) rfl) ?_
  refine ru (rn_iconst (pc := 56) (dd bL_asks dL_asks_56) (by decide)) ?_
  refine ru ((rn_icmp_ne (t := 68) (pc := 57) (dd bL_asks dL_asks_57) rfl).trans (if_pos (by decide))) ?_
  refine ru (rn_iload_n (pc := 68) (dd bL_asks dL_asks_68) rfl) ?_
  refine ru (rn_iconst (pc := 69) (dd bL_asks dL_asks_69) (by decide)) ?_
  refine ru ((rn_icmp_ne (t := 86) (pc := 70) (dd bL_asks dL_asks_70) rfl).trans (if_pos (by decide))) ?_
  refine ru (rn_iload_n (pc := 86) (dd bL_asks dL_asks_86) rfl) ?_
  refine ru (rn_bipush (pc := 87) (dd bL_asks dL_asks_87) (by decide)) ?_
  refine ru ((rn_icmp_ne (t := 103) (pc := 89) (dd bL_asks dL_asks_89) rfl).trans (if_pos (by decide))) ?_
  refine ru (rn_iload_n (pc := 103) (dd bL_asks dL_asks_103) rfl) ?_
  refine ru (rn_bipush (pc := 104) (dd bL_asks dL_asks_104) (by decide)) ?_
  refine ru ((rn_icmp_ne (t := 122) (pc := 106) (dd bL_asks dL_asks_106) rfl).trans (if_neg (by decide))) ?_
  refine ru (rn_aload_n (pc := 109) (dd bL_asks dL_asks_109) rfl) ?_
  refine ru (rn_iload_n (pc := 110) (dd bL_asks dL_asks_110) rfl) ?_
  refine ru (rn_iload_n (pc := 111) (dd bL_asks dL_asks_111) rfl) ?_
  refine ru (rn_iload (pc := 112) (dd bL_asks dL_asks_112) rfl) ?_
  refine ru (rn_iload (pc := 114) (dd bL_asks dL_asks_114) rfl) ?_
  refine ru ((rg_virtual (pc := 116) (dd bL_asks dL_asks_116) rfl rfl (by decide) (kc := 33) rfl (s) (as := [(1, 3), (0, b), (0, c), (0, d), (0, f)]) rfl ⟨Nat.le_of_ble_eq_true rfl, Nat.le_of_ble_eq_true rfl, Nat.le_of_ble_eq_true rfl, Nat.le_of_ble_eq_true rfl⟩).trans (vret_v e)) ?_
  refine ru (rn_goto (t := 174) (pc := 119) (dd bL_asks dL_asks_119) rfl) ?_
  exact ru_end (rn_ireturn (pc := 174) (dd bL_asks dL_asks_174) (Or.inl rfl)) ⟨rfl, rfl⟩

theorem asx_hide {h h1 : vH} {b c d f : Int} {E : String} (s : h 0 3 0 = 33) (e : vcl mX12_hide [(1, 3), (0, b), (0, c), (0, d), (0, f)] h = some (.inr E, h1)) : vcl mL_asks [(1, 3), (0, 7), (0, b), (0, c), (0, d), (0, f)] h = some (.inr E, h1) := by
  refine ru_eq ?_
  refine ru (show _ = vrun mL_asks 0 [(1, 3), (0, 7), (0, b), (0, c), (0, d), (0, f)] [] h from rfl) ?_
  refine ru (rn_iload_n (pc := 0) (dd bL_asks dL_asks_0) rfl) ?_
  refine ru ((rn_if_ne (t := 15) (pc := 1) (dd bL_asks dL_asks_1) rfl).trans (if_pos (by decide))) ?_
  refine ru (rn_iload_n (pc := 15) (dd bL_asks dL_asks_15) rfl) ?_
  refine ru (rn_iconst (pc := 16) (dd bL_asks dL_asks_16) (by decide)) ?_
  refine ru ((rn_icmp_ne (t := 29) (pc := 17) (dd bL_asks dL_asks_17) rfl).trans (if_pos (by decide))) ?_
  refine ru (rn_iload_n (pc := 29) (dd bL_asks dL_asks_29) rfl) ?_
  refine ru (rn_iconst (pc := 30) (dd bL_asks dL_asks_30) (by decide)) ?_
  refine ru ((rn_icmp_ne (t := 42) (pc := 31) (dd bL_asks dL_asks_31) rfl).trans (if_pos (by decide))) ?_
  refine ru (rn_iload_n (pc := 42) (dd bL_asks dL_asks_42) rfl) ?_
  refine ru (rn_iconst (pc := 43) (dd bL_asks dL_asks_43) (by decide)) ?_
  refine ru ((rn_icmp_ne (t := 55) (pc := 44) (dd bL_asks dL_asks_44) rfl).trans (if_pos (by decide))) ?_
  refine ru (rn_iload_n (pc := 55) (dd bL_asks dL_asks_55) rfl) ?_
  refine ru (rn_iconst (pc := 56) (dd bL_asks dL_asks_56) (by decide)) ?_
  refine ru ((rn_icmp_ne (t := 68) (pc := 57) (dd bL_asks dL_asks_57) rfl).trans (if_pos (by decide))) ?_
  refine ru (rn_iload_n (pc := 68) (dd bL_asks dL_asks_68) rfl) ?_
  refine ru (rn_iconst (pc := 69) (dd bL_asks dL_asks_69) (by decide)) ?_
  refine ru ((rn_icmp_ne (t := 86) (pc := 70) (dd bL_asks dL_asks_70) rfl).trans (if_pos (by decide))) ?_
  refine ru (rn_iload_n (pc := 86) (dd bL_asks dL_asks_86) rfl) ?_
  refine ru (rn_bipush (pc := 87) (dd bL_asks dL_asks_87) (by decide)) ?_
  refine ru ((rn_icmp_ne (t := 103) (pc := 89) (dd bL_asks dL_asks_89) rfl).trans (if_pos (by decide))) ?_
  refine ru (rn_iload_n (pc := 103) (dd bL_asks dL_asks_103) rfl) ?_
  refine ru (rn_bipush (pc := 104) (dd bL_asks dL_asks_104) (by decide)) ?_
  refine ru ((rn_icmp_ne (t := 122) (pc := 106) (dd bL_asks dL_asks_106) rfl).trans (if_neg (by decide))) ?_
  refine ru (rn_aload_n (pc := 109) (dd bL_asks dL_asks_109) rfl) ?_
  refine ru (rn_iload_n (pc := 110) (dd bL_asks dL_asks_110) rfl) ?_
  refine ru (rn_iload_n (pc := 111) (dd bL_asks dL_asks_111) rfl) ?_
  refine ru (rn_iload (pc := 112) (dd bL_asks dL_asks_112) rfl) ?_
  refine ru (rn_iload (pc := 114) (dd bL_asks dL_asks_114) rfl) ?_
  exact ru_end ((rg_virtual (pc := 116) (dd bL_asks dL_asks_116) rfl rfl (by decide) (kc := 33) rfl (s) (as := [(1, 3), (0, b), (0, c), (0, d), (0, f)]) rfl ⟨Nat.le_of_ble_eq_true rfl, Nat.le_of_ble_eq_true rfl, Nat.le_of_ble_eq_true rfl, Nat.le_of_ble_eq_true rfl⟩).trans (vret_x e rfl)) ⟨rfl, rfl⟩

theorem asv_addFold {h h1 : vH} {b c d f v : Int} (s : h 0 3 0 = 33) (e : vcl mX12_addFold [(1, 3), (0, b), (0, c), (0, d)] h = some (.inl (some (0, v)), h1)) : vcl mL_asks [(1, 3), (0, 8), (0, b), (0, c), (0, d), (0, f)] h = some (.inl (some (0, v)), h1) := by
  refine ru_eq ?_
  refine ru (show _ = vrun mL_asks 0 [(1, 3), (0, 8), (0, b), (0, c), (0, d), (0, f)] [] h from rfl) ?_
  refine ru (rn_iload_n (pc := 0) (dd bL_asks dL_asks_0) rfl) ?_
  refine ru ((rn_if_ne (t := 15) (pc := 1) (dd bL_asks dL_asks_1) rfl).trans (if_pos (by decide))) ?_
  refine ru (rn_iload_n (pc := 15) (dd bL_asks dL_asks_15) rfl) ?_
  refine ru (rn_iconst (pc := 16) (dd bL_asks dL_asks_16) (by decide)) ?_
  refine ru ((rn_icmp_ne (t := 29) (pc := 17) (dd bL_asks dL_asks_17) rfl).trans (if_pos (by decide))) ?_
  refine ru (rn_iload_n (pc := 29) (dd bL_asks dL_asks_29) rfl) ?_
  refine ru (rn_iconst (pc := 30) (dd bL_asks dL_asks_30) (by decide)) ?_
  refine ru ((rn_icmp_ne (t := 42) (pc := 31) (dd bL_asks dL_asks_31) rfl).trans (if_pos (by decide))) ?_
  refine ru (rn_iload_n (pc := 42) (dd bL_asks dL_asks_42) rfl) ?_
  refine ru (rn_iconst (pc := 43) (dd bL_asks dL_asks_43) (by decide)) ?_
  refine ru ((rn_icmp_ne (t := 55) (pc := 44) (dd bL_asks dL_asks_44) rfl).trans (if_pos (by decide))) ?_
  refine ru (rn_iload_n (pc := 55) (dd bL_asks dL_asks_55) rfl) ?_
  refine ru (rn_iconst (pc := 56) (dd bL_asks dL_asks_56) (by decide)) ?_
  refine ru ((rn_icmp_ne (t := 68) (pc := 57) (dd bL_asks dL_asks_57) rfl).trans (if_pos (by decide))) ?_
  refine ru (rn_iload_n (pc := 68) (dd bL_asks dL_asks_68) rfl) ?_
  refine ru (rn_iconst (pc := 69) (dd bL_asks dL_asks_69) (by decide)) ?_
  refine ru ((rn_icmp_ne (t := 86) (pc := 70) (dd bL_asks dL_asks_70) rfl).trans (if_pos (by decide))) ?_
  refine ru (rn_iload_n (pc := 86) (dd bL_asks dL_asks_86) rfl) ?_
  refine ru (rn_bipush (pc := 87) (dd bL_asks dL_asks_87) (by decide)) ?_
  refine ru ((rn_icmp_ne (t := 103) (pc := 89) (dd bL_asks dL_asks_89) rfl).trans (if_pos (by decide))) ?_
  refine ru (rn_iload_n (pc := 103) (dd bL_asks dL_asks_103) rfl) ?_
  refine ru (rn_bipush (pc := 104) (dd bL_asks dL_asks_104) (by decide)) ?_
  refine ru ((rn_icmp_ne (t := 122) (pc := 106) (dd bL_asks dL_asks_106) rfl).trans (if_pos (by decide))) ?_
  refine ru (rn_iload_n (pc := 122) (dd bL_asks dL_asks_122) rfl) ?_
  refine ru (rn_bipush (pc := 123) (dd bL_asks dL_asks_123) (by decide)) ?_
  refine ru ((rn_icmp_ne (t := 139) (pc := 125) (dd bL_asks dL_asks_125) rfl).trans (if_neg (by decide))) ?_
  refine ru (rn_aload_n (pc := 128) (dd bL_asks dL_asks_128) rfl) ?_
  refine ru (rn_iload_n (pc := 129) (dd bL_asks dL_asks_129) rfl) ?_
  refine ru (rn_iload_n (pc := 130) (dd bL_asks dL_asks_130) rfl) ?_
  refine ru (rn_iload (pc := 131) (dd bL_asks dL_asks_131) rfl) ?_
  refine ru ((rg_virtual (pc := 133) (dd bL_asks dL_asks_133) rfl rfl (by decide) (kc := 33) rfl (s) (as := [(1, 3), (0, b), (0, c), (0, d)]) rfl ⟨Nat.le_of_ble_eq_true rfl, Nat.le_of_ble_eq_true rfl, Nat.le_of_ble_eq_true rfl, Nat.le_of_ble_eq_true rfl⟩).trans (vret_v e)) ?_
  refine ru (rn_goto (t := 174) (pc := 136) (dd bL_asks dL_asks_136) rfl) ?_
  exact ru_end (rn_ireturn (pc := 174) (dd bL_asks dL_asks_174) (Or.inl rfl)) ⟨rfl, rfl⟩

theorem asx_addFold {h h1 : vH} {b c d f : Int} {E : String} (s : h 0 3 0 = 33) (e : vcl mX12_addFold [(1, 3), (0, b), (0, c), (0, d)] h = some (.inr E, h1)) : vcl mL_asks [(1, 3), (0, 8), (0, b), (0, c), (0, d), (0, f)] h = some (.inr E, h1) := by
  refine ru_eq ?_
  refine ru (show _ = vrun mL_asks 0 [(1, 3), (0, 8), (0, b), (0, c), (0, d), (0, f)] [] h from rfl) ?_
  refine ru (rn_iload_n (pc := 0) (dd bL_asks dL_asks_0) rfl) ?_
  refine ru ((rn_if_ne (t := 15) (pc := 1) (dd bL_asks dL_asks_1) rfl).trans (if_pos (by decide))) ?_
  refine ru (rn_iload_n (pc := 15) (dd bL_asks dL_asks_15) rfl) ?_
  refine ru (rn_iconst (pc := 16) (dd bL_asks dL_asks_16) (by decide)) ?_
  refine ru ((rn_icmp_ne (t := 29) (pc := 17) (dd bL_asks dL_asks_17) rfl).trans (if_pos (by decide))) ?_
  refine ru (rn_iload_n (pc := 29) (dd bL_asks dL_asks_29) rfl) ?_
  refine ru (rn_iconst (pc := 30) (dd bL_asks dL_asks_30) (by decide)) ?_
  refine ru ((rn_icmp_ne (t := 42) (pc := 31) (dd bL_asks dL_asks_31) rfl).trans (if_pos (by decide))) ?_
  refine ru (rn_iload_n (pc := 42) (dd bL_asks dL_asks_42) rfl) ?_
  refine ru (rn_iconst (pc := 43) (dd bL_asks dL_asks_43) (by decide)) ?_
  refine ru ((rn_icmp_ne (t := 55) (pc := 44) (dd bL_asks dL_asks_44) rfl).trans (if_pos (by decide))) ?_
  refine ru (rn_iload_n (pc := 55) (dd bL_asks dL_asks_55) rfl) ?_
  refine ru (rn_iconst (pc := 56) (dd bL_asks dL_asks_56) (by decide)) ?_
  refine ru ((rn_icmp_ne (t := 68) (pc := 57) (dd bL_asks dL_asks_57) rfl).trans (if_pos (by decide))) ?_
  refine ru (rn_iload_n (pc := 68) (dd bL_asks dL_asks_68) rfl) ?_
  refine ru (rn_iconst (pc := 69) (dd bL_asks dL_asks_69) (by decide)) ?_
  refine ru ((rn_icmp_ne (t := 86) (pc := 70) (dd bL_asks dL_asks_70) rfl).trans (if_pos (by decide))) ?_
  refine ru (rn_iload_n (pc := 86) (dd bL_asks dL_asks_86) rfl) ?_
  refine ru (rn_bipush (pc := 87) (dd bL_asks dL_asks_87) (by decide)) ?_
  refine ru ((rn_icmp_ne (t := 103) (pc := 89) (dd bL_asks dL_asks_89) rfl).trans (if_pos (by decide))) ?_
  refine ru (rn_iload_n (pc := 103) (dd bL_asks dL_asks_103) rfl) ?_
  refine ru (rn_bipush (pc := 104) (dd bL_asks dL_asks_104) (by decide)) ?_
  refine ru ((rn_icmp_ne (t := 122) (pc := 106) (dd bL_asks dL_asks_106) rfl).trans (if_pos (by decide))) ?_
  refine ru (rn_iload_n (pc := 122) (dd bL_asks dL_asks_122) rfl) ?_
  refine ru (rn_bipush (pc := 123) (dd bL_asks dL_asks_123) (by decide)) ?_
  refine ru ((rn_icmp_ne (t := 139) (pc := 125) (dd bL_asks dL_asks_125) rfl).trans (if_neg (by decide))) ?_
  refine ru (rn_aload_n (pc := 128) (dd bL_asks dL_asks_128) rfl) ?_
  refine ru (rn_iload_n (pc := 129) (dd bL_asks dL_asks_129) rfl) ?_
  refine ru (rn_iload_n (pc := 130) (dd bL_asks dL_asks_130) rfl) ?_
  refine ru (rn_iload (pc := 131) (dd bL_asks dL_asks_131) rfl) ?_
  exact ru_end ((rg_virtual (pc := 133) (dd bL_asks dL_asks_133) rfl rfl (by decide) (kc := 33) rfl (s) (as := [(1, 3), (0, b), (0, c), (0, d)]) rfl ⟨Nat.le_of_ble_eq_true rfl, Nat.le_of_ble_eq_true rfl, Nat.le_of_ble_eq_true rfl, Nat.le_of_ble_eq_true rfl⟩).trans (vret_x e rfl)) ⟨rfl, rfl⟩

theorem asv_type {h h1 : vH} {b c d f v : Int} (s : h 0 3 0 = 33) (e : vcl mX12_type [(1, 3), (0, b), (0, c)] h = some (.inl (some (0, v)), h1)) : vcl mL_asks [(1, 3), (0, 9), (0, b), (0, c), (0, d), (0, f)] h = some (.inl (some (0, v)), h1) := by
  refine ru_eq ?_
  refine ru (show _ = vrun mL_asks 0 [(1, 3), (0, 9), (0, b), (0, c), (0, d), (0, f)] [] h from rfl) ?_
  refine ru (rn_iload_n (pc := 0) (dd bL_asks dL_asks_0) rfl) ?_
  refine ru ((rn_if_ne (t := 15) (pc := 1) (dd bL_asks dL_asks_1) rfl).trans (if_pos (by decide))) ?_
  refine ru (rn_iload_n (pc := 15) (dd bL_asks dL_asks_15) rfl) ?_
  refine ru (rn_iconst (pc := 16) (dd bL_asks dL_asks_16) (by decide)) ?_
  refine ru ((rn_icmp_ne (t := 29) (pc := 17) (dd bL_asks dL_asks_17) rfl).trans (if_pos (by decide))) ?_
  refine ru (rn_iload_n (pc := 29) (dd bL_asks dL_asks_29) rfl) ?_
  refine ru (rn_iconst (pc := 30) (dd bL_asks dL_asks_30) (by decide)) ?_
  refine ru ((rn_icmp_ne (t := 42) (pc := 31) (dd bL_asks dL_asks_31) rfl).trans (if_pos (by decide))) ?_
  refine ru (rn_iload_n (pc := 42) (dd bL_asks dL_asks_42) rfl) ?_
  refine ru (rn_iconst (pc := 43) (dd bL_asks dL_asks_43) (by decide)) ?_
  refine ru ((rn_icmp_ne (t := 55) (pc := 44) (dd bL_asks dL_asks_44) rfl).trans (if_pos (by decide))) ?_
  refine ru (rn_iload_n (pc := 55) (dd bL_asks dL_asks_55) rfl) ?_
  refine ru (rn_iconst (pc := 56) (dd bL_asks dL_asks_56) (by decide)) ?_
  refine ru ((rn_icmp_ne (t := 68) (pc := 57) (dd bL_asks dL_asks_57) rfl).trans (if_pos (by decide))) ?_
  refine ru (rn_iload_n (pc := 68) (dd bL_asks dL_asks_68) rfl) ?_
  refine ru (rn_iconst (pc := 69) (dd bL_asks dL_asks_69) (by decide)) ?_
  refine ru ((rn_icmp_ne (t := 86) (pc := 70) (dd bL_asks dL_asks_70) rfl).trans (if_pos (by decide))) ?_
  refine ru (rn_iload_n (pc := 86) (dd bL_asks dL_asks_86) rfl) ?_
  refine ru (rn_bipush (pc := 87) (dd bL_asks dL_asks_87) (by decide)) ?_
  refine ru ((rn_icmp_ne (t := 103) (pc := 89) (dd bL_asks dL_asks_89) rfl).trans (if_pos (by decide))) ?_
  refine ru (rn_iload_n (pc := 103) (dd bL_asks dL_asks_103) rfl) ?_
  refine ru (rn_bipush (pc := 104) (dd bL_asks dL_asks_104) (by decide)) ?_
  refine ru ((rn_icmp_ne (t := 122) (pc := 106) (dd bL_asks dL_asks_106) rfl).trans (if_pos (by decide))) ?_
  refine ru (rn_iload_n (pc := 122) (dd bL_asks dL_asks_122) rfl) ?_
  refine ru (rn_bipush (pc := 123) (dd bL_asks dL_asks_123) (by decide)) ?_
  refine ru ((rn_icmp_ne (t := 139) (pc := 125) (dd bL_asks dL_asks_125) rfl).trans (if_pos (by decide))) ?_
  refine ru (rn_iload_n (pc := 139) (dd bL_asks dL_asks_139) rfl) ?_
  refine ru (rn_bipush (pc := 140) (dd bL_asks dL_asks_140) (by decide)) ?_
  refine ru ((rn_icmp_ne (t := 154) (pc := 142) (dd bL_asks dL_asks_142) rfl).trans (if_neg (by decide))) ?_
  refine ru (rn_aload_n (pc := 145) (dd bL_asks dL_asks_145) rfl) ?_
  refine ru (rn_iload_n (pc := 146) (dd bL_asks dL_asks_146) rfl) ?_
  refine ru (rn_iload_n (pc := 147) (dd bL_asks dL_asks_147) rfl) ?_
  refine ru ((rg_virtual (pc := 148) (dd bL_asks dL_asks_148) rfl rfl (by decide) (kc := 33) rfl (s) (as := [(1, 3), (0, b), (0, c)]) rfl ⟨Nat.le_of_ble_eq_true rfl, Nat.le_of_ble_eq_true rfl, Nat.le_of_ble_eq_true rfl, Nat.le_of_ble_eq_true rfl⟩).trans (vret_v e)) ?_
  refine ru (rn_goto (t := 174) (pc := 151) (dd bL_asks dL_asks_151) rfl) ?_
  exact ru_end (rn_ireturn (pc := 174) (dd bL_asks dL_asks_174) (Or.inl rfl)) ⟨rfl, rfl⟩

theorem asx_type {h h1 : vH} {b c d f : Int} {E : String} (s : h 0 3 0 = 33) (e : vcl mX12_type [(1, 3), (0, b), (0, c)] h = some (.inr E, h1)) : vcl mL_asks [(1, 3), (0, 9), (0, b), (0, c), (0, d), (0, f)] h = some (.inr E, h1) := by
  refine ru_eq ?_
  refine ru (show _ = vrun mL_asks 0 [(1, 3), (0, 9), (0, b), (0, c), (0, d), (0, f)] [] h from rfl) ?_
  refine ru (rn_iload_n (pc := 0) (dd bL_asks dL_asks_0) rfl) ?_
  refine ru ((rn_if_ne (t := 15) (pc := 1) (dd bL_asks dL_asks_1) rfl).trans (if_pos (by decide))) ?_
  refine ru (rn_iload_n (pc := 15) (dd bL_asks dL_asks_15) rfl) ?_
  refine ru (rn_iconst (pc := 16) (dd bL_asks dL_asks_16) (by decide)) ?_
  refine ru ((rn_icmp_ne (t := 29) (pc := 17) (dd bL_asks dL_asks_17) rfl).trans (if_pos (by decide))) ?_
  refine ru (rn_iload_n (pc := 29) (dd bL_asks dL_asks_29) rfl) ?_
  refine ru (rn_iconst (pc := 30) (dd bL_asks dL_asks_30) (by decide)) ?_
  refine ru ((rn_icmp_ne (t := 42) (pc := 31) (dd bL_asks dL_asks_31) rfl).trans (if_pos (by decide))) ?_
  refine ru (rn_iload_n (pc := 42) (dd bL_asks dL_asks_42) rfl) ?_
  refine ru (rn_iconst (pc := 43) (dd bL_asks dL_asks_43) (by decide)) ?_
  refine ru ((rn_icmp_ne (t := 55) (pc := 44) (dd bL_asks dL_asks_44) rfl).trans (if_pos (by decide))) ?_
  refine ru (rn_iload_n (pc := 55) (dd bL_asks dL_asks_55) rfl) ?_
  refine ru (rn_iconst (pc := 56) (dd bL_asks dL_asks_56) (by decide)) ?_
  refine ru ((rn_icmp_ne (t := 68) (pc := 57) (dd bL_asks dL_asks_57) rfl).trans (if_pos (by decide))) ?_
  refine ru (rn_iload_n (pc := 68) (dd bL_asks dL_asks_68) rfl) ?_
  refine ru (rn_iconst (pc := 69) (dd bL_asks dL_asks_69) (by decide)) ?_
  refine ru ((rn_icmp_ne (t := 86) (pc := 70) (dd bL_asks dL_asks_70) rfl).trans (if_pos (by decide))) ?_
  refine ru (rn_iload_n (pc := 86) (dd bL_asks dL_asks_86) rfl) ?_
  refine ru (rn_bipush (pc := 87) (dd bL_asks dL_asks_87) (by decide)) ?_
  refine ru ((rn_icmp_ne (t := 103) (pc := 89) (dd bL_asks dL_asks_89) rfl).trans (if_pos (by decide))) ?_
  refine ru (rn_iload_n (pc := 103) (dd bL_asks dL_asks_103) rfl) ?_
  refine ru (rn_bipush (pc := 104) (dd bL_asks dL_asks_104) (by decide)) ?_
  refine ru ((rn_icmp_ne (t := 122) (pc := 106) (dd bL_asks dL_asks_106) rfl).trans (if_pos (by decide))) ?_
  refine ru (rn_iload_n (pc := 122) (dd bL_asks dL_asks_122) rfl) ?_
  refine ru (rn_bipush (pc := 123) (dd bL_asks dL_asks_123) (by decide)) ?_
  refine ru ((rn_icmp_ne (t := 139) (pc := 125) (dd bL_asks dL_asks_125) rfl).trans (if_pos (by decide))) ?_
  refine ru (rn_iload_n (pc := 139) (dd bL_asks dL_asks_139) rfl) ?_
  refine ru (rn_bipush (pc := 140) (dd bL_asks dL_asks_140) (by decide)) ?_
  refine ru ((rn_icmp_ne (t := 154) (pc := 142) (dd bL_asks dL_asks_142) rfl).trans (if_neg (by decide))) ?_
  refine ru (rn_aload_n (pc := 145) (dd bL_asks dL_asks_145) rfl) ?_
  refine ru (rn_iload_n (pc := 146) (dd bL_asks dL_asks_146) rfl) ?_
  refine ru (rn_iload_n (pc := 147) (dd bL_asks dL_asks_147) rfl) ?_
  exact ru_end ((rg_virtual (pc := 148) (dd bL_asks dL_asks_148) rfl rfl (by decide) (kc := 33) rfl (s) (as := [(1, 3), (0, b), (0, c)]) rfl ⟨Nat.le_of_ble_eq_true rfl, Nat.le_of_ble_eq_true rfl, Nat.le_of_ble_eq_true rfl, Nat.le_of_ble_eq_true rfl⟩).trans (vret_x e rfl)) ⟨rfl, rfl⟩

theorem asv_play {h h1 : vH} {b c d f v : Int} (s : h 0 3 0 = 33) (e : vcl mX12_play [(1, 3), (0, b), (0, c)] h = some (.inl (some (0, v)), h1)) : vcl mL_asks [(1, 3), (0, 10), (0, b), (0, c), (0, d), (0, f)] h = some (.inl (some (0, v)), h1) := by
  refine ru_eq ?_
  refine ru (show _ = vrun mL_asks 0 [(1, 3), (0, 10), (0, b), (0, c), (0, d), (0, f)] [] h from rfl) ?_
  refine ru (rn_iload_n (pc := 0) (dd bL_asks dL_asks_0) rfl) ?_
  refine ru ((rn_if_ne (t := 15) (pc := 1) (dd bL_asks dL_asks_1) rfl).trans (if_pos (by decide))) ?_
  refine ru (rn_iload_n (pc := 15) (dd bL_asks dL_asks_15) rfl) ?_
  refine ru (rn_iconst (pc := 16) (dd bL_asks dL_asks_16) (by decide)) ?_
  refine ru ((rn_icmp_ne (t := 29) (pc := 17) (dd bL_asks dL_asks_17) rfl).trans (if_pos (by decide))) ?_
  refine ru (rn_iload_n (pc := 29) (dd bL_asks dL_asks_29) rfl) ?_
  refine ru (rn_iconst (pc := 30) (dd bL_asks dL_asks_30) (by decide)) ?_
  refine ru ((rn_icmp_ne (t := 42) (pc := 31) (dd bL_asks dL_asks_31) rfl).trans (if_pos (by decide))) ?_
  refine ru (rn_iload_n (pc := 42) (dd bL_asks dL_asks_42) rfl) ?_
  refine ru (rn_iconst (pc := 43) (dd bL_asks dL_asks_43) (by decide)) ?_
  refine ru ((rn_icmp_ne (t := 55) (pc := 44) (dd bL_asks dL_asks_44) rfl).trans (if_pos (by decide))) ?_
  refine ru (rn_iload_n (pc := 55) (dd bL_asks dL_asks_55) rfl) ?_
  refine ru (rn_iconst (pc := 56) (dd bL_asks dL_asks_56) (by decide)) ?_
  refine ru ((rn_icmp_ne (t := 68) (pc := 57) (dd bL_asks dL_asks_57) rfl).trans (if_pos (by decide))) ?_
  refine ru (rn_iload_n (pc := 68) (dd bL_asks dL_asks_68) rfl) ?_
  refine ru (rn_iconst (pc := 69) (dd bL_asks dL_asks_69) (by decide)) ?_
  refine ru ((rn_icmp_ne (t := 86) (pc := 70) (dd bL_asks dL_asks_70) rfl).trans (if_pos (by decide))) ?_
  refine ru (rn_iload_n (pc := 86) (dd bL_asks dL_asks_86) rfl) ?_
  refine ru (rn_bipush (pc := 87) (dd bL_asks dL_asks_87) (by decide)) ?_
  refine ru ((rn_icmp_ne (t := 103) (pc := 89) (dd bL_asks dL_asks_89) rfl).trans (if_pos (by decide))) ?_
  refine ru (rn_iload_n (pc := 103) (dd bL_asks dL_asks_103) rfl) ?_
  refine ru (rn_bipush (pc := 104) (dd bL_asks dL_asks_104) (by decide)) ?_
  refine ru ((rn_icmp_ne (t := 122) (pc := 106) (dd bL_asks dL_asks_106) rfl).trans (if_pos (by decide))) ?_
  refine ru (rn_iload_n (pc := 122) (dd bL_asks dL_asks_122) rfl) ?_
  refine ru (rn_bipush (pc := 123) (dd bL_asks dL_asks_123) (by decide)) ?_
  refine ru ((rn_icmp_ne (t := 139) (pc := 125) (dd bL_asks dL_asks_125) rfl).trans (if_pos (by decide))) ?_
  refine ru (rn_iload_n (pc := 139) (dd bL_asks dL_asks_139) rfl) ?_
  refine ru (rn_bipush (pc := 140) (dd bL_asks dL_asks_140) (by decide)) ?_
  refine ru ((rn_icmp_ne (t := 154) (pc := 142) (dd bL_asks dL_asks_142) rfl).trans (if_pos (by decide))) ?_
  refine ru (rn_iload_n (pc := 154) (dd bL_asks dL_asks_154) rfl) ?_
  refine ru (rn_bipush (pc := 155) (dd bL_asks dL_asks_155) (by decide)) ?_
  refine ru ((rn_icmp_ne (t := 169) (pc := 157) (dd bL_asks dL_asks_157) rfl).trans (if_neg (by decide))) ?_
  refine ru (rn_aload_n (pc := 160) (dd bL_asks dL_asks_160) rfl) ?_
  refine ru (rn_iload_n (pc := 161) (dd bL_asks dL_asks_161) rfl) ?_
  refine ru (rn_iload_n (pc := 162) (dd bL_asks dL_asks_162) rfl) ?_
  refine ru ((rg_virtual (pc := 163) (dd bL_asks dL_asks_163) rfl rfl (by decide) (kc := 33) rfl (s) (as := [(1, 3), (0, b), (0, c)]) rfl ⟨Nat.le_of_ble_eq_true rfl, Nat.le_of_ble_eq_true rfl, Nat.le_of_ble_eq_true rfl, Nat.le_of_ble_eq_true rfl⟩).trans (vret_v e)) ?_
  refine ru (rn_goto (t := 174) (pc := 166) (dd bL_asks dL_asks_166) rfl) ?_
  exact ru_end (rn_ireturn (pc := 174) (dd bL_asks dL_asks_174) (Or.inl rfl)) ⟨rfl, rfl⟩

theorem asx_play {h h1 : vH} {b c d f : Int} {E : String} (s : h 0 3 0 = 33) (e : vcl mX12_play [(1, 3), (0, b), (0, c)] h = some (.inr E, h1)) : vcl mL_asks [(1, 3), (0, 10), (0, b), (0, c), (0, d), (0, f)] h = some (.inr E, h1) := by
  refine ru_eq ?_
  refine ru (show _ = vrun mL_asks 0 [(1, 3), (0, 10), (0, b), (0, c), (0, d), (0, f)] [] h from rfl) ?_
  refine ru (rn_iload_n (pc := 0) (dd bL_asks dL_asks_0) rfl) ?_
  refine ru ((rn_if_ne (t := 15) (pc := 1) (dd bL_asks dL_asks_1) rfl).trans (if_pos (by decide))) ?_
  refine ru (rn_iload_n (pc := 15) (dd bL_asks dL_asks_15) rfl) ?_
  refine ru (rn_iconst (pc := 16) (dd bL_asks dL_asks_16) (by decide)) ?_
  refine ru ((rn_icmp_ne (t := 29) (pc := 17) (dd bL_asks dL_asks_17) rfl).trans (if_pos (by decide))) ?_
  refine ru (rn_iload_n (pc := 29) (dd bL_asks dL_asks_29) rfl) ?_
  refine ru (rn_iconst (pc := 30) (dd bL_asks dL_asks_30) (by decide)) ?_
  refine ru ((rn_icmp_ne (t := 42) (pc := 31) (dd bL_asks dL_asks_31) rfl).trans (if_pos (by decide))) ?_
  refine ru (rn_iload_n (pc := 42) (dd bL_asks dL_asks_42) rfl) ?_
  refine ru (rn_iconst (pc := 43) (dd bL_asks dL_asks_43) (by decide)) ?_
  refine ru ((rn_icmp_ne (t := 55) (pc := 44) (dd bL_asks dL_asks_44) rfl).trans (if_pos (by decide))) ?_
  refine ru (rn_iload_n (pc := 55) (dd bL_asks dL_asks_55) rfl) ?_
  refine ru (rn_iconst (pc := 56) (dd bL_asks dL_asks_56) (by decide)) ?_
  refine ru ((rn_icmp_ne (t := 68) (pc := 57) (dd bL_asks dL_asks_57) rfl).trans (if_pos (by decide))) ?_
  refine ru (rn_iload_n (pc := 68) (dd bL_asks dL_asks_68) rfl) ?_
  refine ru (rn_iconst (pc := 69) (dd bL_asks dL_asks_69) (by decide)) ?_
  refine ru ((rn_icmp_ne (t := 86) (pc := 70) (dd bL_asks dL_asks_70) rfl).trans (if_pos (by decide))) ?_
  refine ru (rn_iload_n (pc := 86) (dd bL_asks dL_asks_86) rfl) ?_
  refine ru (rn_bipush (pc := 87) (dd bL_asks dL_asks_87) (by decide)) ?_
  refine ru ((rn_icmp_ne (t := 103) (pc := 89) (dd bL_asks dL_asks_89) rfl).trans (if_pos (by decide))) ?_
  refine ru (rn_iload_n (pc := 103) (dd bL_asks dL_asks_103) rfl) ?_
  refine ru (rn_bipush (pc := 104) (dd bL_asks dL_asks_104) (by decide)) ?_
  refine ru ((rn_icmp_ne (t := 122) (pc := 106) (dd bL_asks dL_asks_106) rfl).trans (if_pos (by decide))) ?_
  refine ru (rn_iload_n (pc := 122) (dd bL_asks dL_asks_122) rfl) ?_
  refine ru (rn_bipush (pc := 123) (dd bL_asks dL_asks_123) (by decide)) ?_
  refine ru ((rn_icmp_ne (t := 139) (pc := 125) (dd bL_asks dL_asks_125) rfl).trans (if_pos (by decide))) ?_
  refine ru (rn_iload_n (pc := 139) (dd bL_asks dL_asks_139) rfl) ?_
  refine ru (rn_bipush (pc := 140) (dd bL_asks dL_asks_140) (by decide)) ?_
  refine ru ((rn_icmp_ne (t := 154) (pc := 142) (dd bL_asks dL_asks_142) rfl).trans (if_pos (by decide))) ?_
  refine ru (rn_iload_n (pc := 154) (dd bL_asks dL_asks_154) rfl) ?_
  refine ru (rn_bipush (pc := 155) (dd bL_asks dL_asks_155) (by decide)) ?_
  refine ru ((rn_icmp_ne (t := 169) (pc := 157) (dd bL_asks dL_asks_157) rfl).trans (if_neg (by decide))) ?_
  refine ru (rn_aload_n (pc := 160) (dd bL_asks dL_asks_160) rfl) ?_
  refine ru (rn_iload_n (pc := 161) (dd bL_asks dL_asks_161) rfl) ?_
  refine ru (rn_iload_n (pc := 162) (dd bL_asks dL_asks_162) rfl) ?_
  exact ru_end ((rg_virtual (pc := 163) (dd bL_asks dL_asks_163) rfl rfl (by decide) (kc := 33) rfl (s) (as := [(1, 3), (0, b), (0, c)]) rfl ⟨Nat.le_of_ble_eq_true rfl, Nat.le_of_ble_eq_true rfl, Nat.le_of_ble_eq_true rfl, Nat.le_of_ble_eq_true rfl⟩).trans (vret_x e rfl)) ⟨rfl, rfl⟩

theorem asv_draw {h h1 : vH} {b c d f v : Int} (s : h 0 3 0 = 33) (e : vcl mX12_draw [(1, 3), (0, b)] h = some (.inl (some (0, v)), h1)) : vcl mL_asks [(1, 3), (0, 11), (0, b), (0, c), (0, d), (0, f)] h = some (.inl (some (0, v)), h1) := by
  refine ru_eq ?_
  refine ru (show _ = vrun mL_asks 0 [(1, 3), (0, 11), (0, b), (0, c), (0, d), (0, f)] [] h from rfl) ?_
  refine ru (rn_iload_n (pc := 0) (dd bL_asks dL_asks_0) rfl) ?_
  refine ru ((rn_if_ne (t := 15) (pc := 1) (dd bL_asks dL_asks_1) rfl).trans (if_pos (by decide))) ?_
  refine ru (rn_iload_n (pc := 15) (dd bL_asks dL_asks_15) rfl) ?_
  refine ru (rn_iconst (pc := 16) (dd bL_asks dL_asks_16) (by decide)) ?_
  refine ru ((rn_icmp_ne (t := 29) (pc := 17) (dd bL_asks dL_asks_17) rfl).trans (if_pos (by decide))) ?_
  refine ru (rn_iload_n (pc := 29) (dd bL_asks dL_asks_29) rfl) ?_
  refine ru (rn_iconst (pc := 30) (dd bL_asks dL_asks_30) (by decide)) ?_
  refine ru ((rn_icmp_ne (t := 42) (pc := 31) (dd bL_asks dL_asks_31) rfl).trans (if_pos (by decide))) ?_
  refine ru (rn_iload_n (pc := 42) (dd bL_asks dL_asks_42) rfl) ?_
  refine ru (rn_iconst (pc := 43) (dd bL_asks dL_asks_43) (by decide)) ?_
  refine ru ((rn_icmp_ne (t := 55) (pc := 44) (dd bL_asks dL_asks_44) rfl).trans (if_pos (by decide))) ?_
  refine ru (rn_iload_n (pc := 55) (dd bL_asks dL_asks_55) rfl) ?_
  refine ru (rn_iconst (pc := 56) (dd bL_asks dL_asks_56) (by decide)) ?_
  refine ru ((rn_icmp_ne (t := 68) (pc := 57) (dd bL_asks dL_asks_57) rfl).trans (if_pos (by decide))) ?_
  refine ru (rn_iload_n (pc := 68) (dd bL_asks dL_asks_68) rfl) ?_
  refine ru (rn_iconst (pc := 69) (dd bL_asks dL_asks_69) (by decide)) ?_
  refine ru ((rn_icmp_ne (t := 86) (pc := 70) (dd bL_asks dL_asks_70) rfl).trans (if_pos (by decide))) ?_
  refine ru (rn_iload_n (pc := 86) (dd bL_asks dL_asks_86) rfl) ?_
  refine ru (rn_bipush (pc := 87) (dd bL_asks dL_asks_87) (by decide)) ?_
  refine ru ((rn_icmp_ne (t := 103) (pc := 89) (dd bL_asks dL_asks_89) rfl).trans (if_pos (by decide))) ?_
  refine ru (rn_iload_n (pc := 103) (dd bL_asks dL_asks_103) rfl) ?_
  refine ru (rn_bipush (pc := 104) (dd bL_asks dL_asks_104) (by decide)) ?_
  refine ru ((rn_icmp_ne (t := 122) (pc := 106) (dd bL_asks dL_asks_106) rfl).trans (if_pos (by decide))) ?_
  refine ru (rn_iload_n (pc := 122) (dd bL_asks dL_asks_122) rfl) ?_
  refine ru (rn_bipush (pc := 123) (dd bL_asks dL_asks_123) (by decide)) ?_
  refine ru ((rn_icmp_ne (t := 139) (pc := 125) (dd bL_asks dL_asks_125) rfl).trans (if_pos (by decide))) ?_
  refine ru (rn_iload_n (pc := 139) (dd bL_asks dL_asks_139) rfl) ?_
  refine ru (rn_bipush (pc := 140) (dd bL_asks dL_asks_140) (by decide)) ?_
  refine ru ((rn_icmp_ne (t := 154) (pc := 142) (dd bL_asks dL_asks_142) rfl).trans (if_pos (by decide))) ?_
  refine ru (rn_iload_n (pc := 154) (dd bL_asks dL_asks_154) rfl) ?_
  refine ru (rn_bipush (pc := 155) (dd bL_asks dL_asks_155) (by decide)) ?_
  refine ru ((rn_icmp_ne (t := 169) (pc := 157) (dd bL_asks dL_asks_157) rfl).trans (if_pos (by decide))) ?_
  refine ru (rn_aload_n (pc := 169) (dd bL_asks dL_asks_169) rfl) ?_
  refine ru (rn_iload_n (pc := 170) (dd bL_asks dL_asks_170) rfl) ?_
  refine ru ((rg_virtual (pc := 171) (dd bL_asks dL_asks_171) rfl rfl (by decide) (kc := 33) rfl (s) (as := [(1, 3), (0, b)]) rfl ⟨Nat.le_of_ble_eq_true rfl, Nat.le_of_ble_eq_true rfl, Nat.le_of_ble_eq_true rfl, Nat.le_of_ble_eq_true rfl⟩).trans (vret_v e)) ?_
  exact ru_end (rn_ireturn (pc := 174) (dd bL_asks dL_asks_174) (Or.inl rfl)) ⟨rfl, rfl⟩

theorem asx_draw {h h1 : vH} {b c d f : Int} {E : String} (s : h 0 3 0 = 33) (e : vcl mX12_draw [(1, 3), (0, b)] h = some (.inr E, h1)) : vcl mL_asks [(1, 3), (0, 11), (0, b), (0, c), (0, d), (0, f)] h = some (.inr E, h1) := by
  refine ru_eq ?_
  refine ru (show _ = vrun mL_asks 0 [(1, 3), (0, 11), (0, b), (0, c), (0, d), (0, f)] [] h from rfl) ?_
  refine ru (rn_iload_n (pc := 0) (dd bL_asks dL_asks_0) rfl) ?_
  refine ru ((rn_if_ne (t := 15) (pc := 1) (dd bL_asks dL_asks_1) rfl).trans (if_pos (by decide))) ?_
  refine ru (rn_iload_n (pc := 15) (dd bL_asks dL_asks_15) rfl) ?_
  refine ru (rn_iconst (pc := 16) (dd bL_asks dL_asks_16) (by decide)) ?_
  refine ru ((rn_icmp_ne (t := 29) (pc := 17) (dd bL_asks dL_asks_17) rfl).trans (if_pos (by decide))) ?_
  refine ru (rn_iload_n (pc := 29) (dd bL_asks dL_asks_29) rfl) ?_
  refine ru (rn_iconst (pc := 30) (dd bL_asks dL_asks_30) (by decide)) ?_
  refine ru ((rn_icmp_ne (t := 42) (pc := 31) (dd bL_asks dL_asks_31) rfl).trans (if_pos (by decide))) ?_
  refine ru (rn_iload_n (pc := 42) (dd bL_asks dL_asks_42) rfl) ?_
  refine ru (rn_iconst (pc := 43) (dd bL_asks dL_asks_43) (by decide)) ?_
  refine ru ((rn_icmp_ne (t := 55) (pc := 44) (dd bL_asks dL_asks_44) rfl).trans (if_pos (by decide))) ?_
  refine ru (rn_iload_n (pc := 55) (dd bL_asks dL_asks_55) rfl) ?_
  refine ru (rn_iconst (pc := 56) (dd bL_asks dL_asks_56) (by decide)) ?_
  refine ru ((rn_icmp_ne (t := 68) (pc := 57) (dd bL_asks dL_asks_57) rfl).trans (if_pos (by decide))) ?_
  refine ru (rn_iload_n (pc := 68) (dd bL_asks dL_asks_68) rfl) ?_
  refine ru (rn_iconst (pc := 69) (dd bL_asks dL_asks_69) (by decide)) ?_
  refine ru ((rn_icmp_ne (t := 86) (pc := 70) (dd bL_asks dL_asks_70) rfl).trans (if_pos (by decide))) ?_
  refine ru (rn_iload_n (pc := 86) (dd bL_asks dL_asks_86) rfl) ?_
  refine ru (rn_bipush (pc := 87) (dd bL_asks dL_asks_87) (by decide)) ?_
  refine ru ((rn_icmp_ne (t := 103) (pc := 89) (dd bL_asks dL_asks_89) rfl).trans (if_pos (by decide))) ?_
  refine ru (rn_iload_n (pc := 103) (dd bL_asks dL_asks_103) rfl) ?_
  refine ru (rn_bipush (pc := 104) (dd bL_asks dL_asks_104) (by decide)) ?_
  refine ru ((rn_icmp_ne (t := 122) (pc := 106) (dd bL_asks dL_asks_106) rfl).trans (if_pos (by decide))) ?_
  refine ru (rn_iload_n (pc := 122) (dd bL_asks dL_asks_122) rfl) ?_
  refine ru (rn_bipush (pc := 123) (dd bL_asks dL_asks_123) (by decide)) ?_
  refine ru ((rn_icmp_ne (t := 139) (pc := 125) (dd bL_asks dL_asks_125) rfl).trans (if_pos (by decide))) ?_
  refine ru (rn_iload_n (pc := 139) (dd bL_asks dL_asks_139) rfl) ?_
  refine ru (rn_bipush (pc := 140) (dd bL_asks dL_asks_140) (by decide)) ?_
  refine ru ((rn_icmp_ne (t := 154) (pc := 142) (dd bL_asks dL_asks_142) rfl).trans (if_pos (by decide))) ?_
  refine ru (rn_iload_n (pc := 154) (dd bL_asks dL_asks_154) rfl) ?_
  refine ru (rn_bipush (pc := 155) (dd bL_asks dL_asks_155) (by decide)) ?_
  refine ru ((rn_icmp_ne (t := 169) (pc := 157) (dd bL_asks dL_asks_157) rfl).trans (if_pos (by decide))) ?_
  refine ru (rn_aload_n (pc := 169) (dd bL_asks dL_asks_169) rfl) ?_
  refine ru (rn_iload_n (pc := 170) (dd bL_asks dL_asks_170) rfl) ?_
  exact ru_end ((rg_virtual (pc := 171) (dd bL_asks dL_asks_171) rfl rfl (by decide) (kc := 33) rfl (s) (as := [(1, 3), (0, b)]) rfl ⟨Nat.le_of_ble_eq_true rfl, Nat.le_of_ble_eq_true rfl, Nat.le_of_ble_eq_true rfl, Nat.le_of_ble_eq_true rfl⟩).trans (vret_x e rfl)) ⟨rfl, rfl⟩

theorem onv {h h1 : vH} {k b c d f v : Int} (s : h 0 3 0 = 33) (e : vcl mL_asks [(1, 3), (0, k), (0, b), (0, c), (0, d), (0, f)] h = some (.inl (some (0, v)), h1)) : vcl mL_on [(1, 3), (0, k), (0, b), (0, c), (0, d), (0, f)] h = some (.inl (some (0, v)), h1) := by
  refine ru_eq ?_
  refine ru (show _ = vrun mL_on 0 [(1, 3), (0, k), (0, b), (0, c), (0, d), (0, f), (9, 0)] [] h from rfl) ?_
  refine ru (rn_aload_n (pc := 0) (dd bL_on dL_on_0) rfl) ?_
  refine ru (rn_iload_n (pc := 1) (dd bL_on dL_on_1) rfl) ?_
  refine ru (rn_iload_n (pc := 2) (dd bL_on dL_on_2) rfl) ?_
  refine ru (rn_iload_n (pc := 3) (dd bL_on dL_on_3) rfl) ?_
  refine ru (rn_iload (pc := 4) (dd bL_on dL_on_4) rfl) ?_
  refine ru (rn_iload (pc := 6) (dd bL_on dL_on_6) rfl) ?_
  refine ru ((rg_static (pc := 8) (dd bL_on dL_on_8) rfl (by decide) (Nat.le_of_ble_eq_true rfl) (as := [(1, 3), (0, k), (0, b), (0, c), (0, d), (0, f)]) rfl rfl ⟨Nat.le_of_ble_eq_true rfl, Nat.le_of_ble_eq_true rfl, Nat.le_of_ble_eq_true rfl, Nat.le_of_ble_eq_true rfl⟩).trans (vret_v e)) ?_
  exact ru_end (rn_ireturn (pc := 11) (dd bL_on dL_on_11) (Or.inl rfl)) ⟨rfl, rfl⟩

theorem onx {h h1 : vH} {k b c d f : Int} (s : h 0 3 0 = 33) (e : vcl mL_asks [(1, 3), (0, k), (0, b), (0, c), (0, d), (0, f)] h = some (.inr "java/lang/IllegalStateException", h1)) : vcl mL_on [(1, 3), (0, k), (0, b), (0, c), (0, d), (0, f)] h = some (.inl (some (0, -13)), h1) := by
  refine ru_eq ?_
  refine ru (show _ = vrun mL_on 0 [(1, 3), (0, k), (0, b), (0, c), (0, d), (0, f), (9, 0)] [] h from rfl) ?_
  refine ru (rn_aload_n (pc := 0) (dd bL_on dL_on_0) rfl) ?_
  refine ru (rn_iload_n (pc := 1) (dd bL_on dL_on_1) rfl) ?_
  refine ru (rn_iload_n (pc := 2) (dd bL_on dL_on_2) rfl) ?_
  refine ru (rn_iload_n (pc := 3) (dd bL_on dL_on_3) rfl) ?_
  refine ru (rn_iload (pc := 4) (dd bL_on dL_on_4) rfl) ?_
  refine ru (rn_iload (pc := 6) (dd bL_on dL_on_6) rfl) ?_
  refine ru ((rg_static (pc := 8) (dd bL_on dL_on_8) rfl (by decide) (Nat.le_of_ble_eq_true rfl) (as := [(1, 3), (0, k), (0, b), (0, c), (0, d), (0, f)]) rfl rfl ⟨Nat.le_of_ble_eq_true rfl, Nat.le_of_ble_eq_true rfl, Nat.le_of_ble_eq_true rfl, Nat.le_of_ble_eq_true rfl⟩).trans (vret_h2 e (x := (0, 11, 12, 55, "java/lang/IllegalStateException")) (by decide +kernel) rfl (dd bL_on dL_on_12) (Nat.le_of_ble_eq_true rfl) (L2 := [(1, 3), (0, k), (0, b), (0, c), (0, d), (0, f), (9, 0)]) rfl)) ?_
  refine ru (rn_bipush (pc := 14) (dd bL_on dL_on_14) (by decide)) ?_
  exact ru_end (rn_ireturn (pc := 16) (dd bL_on dL_on_16) (Or.inl rfl)) ⟨rfl, rfl⟩

theorem viv {h h1 : vH} {b c d f v : Int} (s : h 0 3 0 = 33) (e : vcl mX12_addVirtual [(1, 3), (0, b), (0, c), (0, d), (2, f)] h = some (.inl (some (0, v)), h1)) : vcl mL_virtuals [(1, 3), (0, b), (0, c), (0, d), (2, f)] h = some (.inl (some (0, v)), h1) := by
  refine ru_eq ?_
  refine ru (show _ = vrun mL_virtuals 0 [(1, 3), (0, b), (0, c), (0, d), (2, f), (8, 0), (9, 0)] [] h from rfl) ?_
  refine ru (rn_aload_n (pc := 0) (dd bL_virtuals dL_virtuals_0) rfl) ?_
  refine ru (rn_iload_n (pc := 1) (dd bL_virtuals dL_virtuals_1) rfl) ?_
  refine ru (rn_iload_n (pc := 2) (dd bL_virtuals dL_virtuals_2) rfl) ?_
  refine ru (rn_iload_n (pc := 3) (dd bL_virtuals dL_virtuals_3) rfl) ?_
  refine ru (rn_lload (pc := 4) (dd bL_virtuals dL_virtuals_4) rfl) ?_
  refine ru ((rg_virtual (pc := 6) (dd bL_virtuals dL_virtuals_6) rfl rfl (by decide) (kc := 33) rfl (s) (as := [(1, 3), (0, b), (0, c), (0, d), (2, f)]) rfl ⟨Nat.le_of_ble_eq_true rfl, Nat.le_of_ble_eq_true rfl, Nat.le_of_ble_eq_true rfl, Nat.le_of_ble_eq_true rfl⟩).trans (vret_v e)) ?_
  exact ru_end (rn_ireturn (pc := 9) (dd bL_virtuals dL_virtuals_9) (Or.inl rfl)) ⟨rfl, rfl⟩

theorem vix {h h1 : vH} {b c d f : Int} (s : h 0 3 0 = 33) (e : vcl mX12_addVirtual [(1, 3), (0, b), (0, c), (0, d), (2, f)] h = some (.inr "java/lang/IllegalStateException", h1)) : vcl mL_virtuals [(1, 3), (0, b), (0, c), (0, d), (2, f)] h = some (.inl (some (0, -13)), h1) := by
  refine ru_eq ?_
  refine ru (show _ = vrun mL_virtuals 0 [(1, 3), (0, b), (0, c), (0, d), (2, f), (8, 0), (9, 0)] [] h from rfl) ?_
  refine ru (rn_aload_n (pc := 0) (dd bL_virtuals dL_virtuals_0) rfl) ?_
  refine ru (rn_iload_n (pc := 1) (dd bL_virtuals dL_virtuals_1) rfl) ?_
  refine ru (rn_iload_n (pc := 2) (dd bL_virtuals dL_virtuals_2) rfl) ?_
  refine ru (rn_iload_n (pc := 3) (dd bL_virtuals dL_virtuals_3) rfl) ?_
  refine ru (rn_lload (pc := 4) (dd bL_virtuals dL_virtuals_4) rfl) ?_
  refine ru ((rg_virtual (pc := 6) (dd bL_virtuals dL_virtuals_6) rfl rfl (by decide) (kc := 33) rfl (s) (as := [(1, 3), (0, b), (0, c), (0, d), (2, f)]) rfl ⟨Nat.le_of_ble_eq_true rfl, Nat.le_of_ble_eq_true rfl, Nat.le_of_ble_eq_true rfl, Nat.le_of_ble_eq_true rfl⟩).trans (vret_h2 e (x := (0, 9, 10, 55, "java/lang/IllegalStateException")) (by decide +kernel) rfl (dd bL_virtuals dL_virtuals_10) (Nat.le_of_ble_eq_true rfl) (L2 := [(1, 3), (0, b), (0, c), (0, d), (2, f), (8, 0), (9, 0)]) rfl)) ?_
  refine ru (rn_bipush (pc := 12) (dd bL_virtuals dL_virtuals_12) (by decide)) ?_
  exact ru_end (rn_ireturn (pc := 14) (dd bL_virtuals dL_virtuals_14) (Or.inl rfl)) ⟨rfl, rfl⟩

theorem clv0 {h h1 : vH} {b c d : Int} (s : h 0 3 0 = 33) (e : vcl mX12_setClosed [(1, 3), (0, b), (0, c), (0, d)] h = some (.inl (some (0, 0)), h1)) : vcl mL_closes [(1, 3), (0, b), (0, c), (0, d)] h = some (.inl (some (0, 0)), h1) := by
  refine ru_eq ?_
  refine ru (show _ = vrun mL_closes 0 [(1, 3), (0, b), (0, c), (0, d), (9, 0)] [] h from rfl) ?_
  refine ru (rn_aload_n (pc := 0) (dd bL_closes dL_closes_0) rfl) ?_
  refine ru (rn_iload_n (pc := 1) (dd bL_closes dL_closes_1) rfl) ?_
  refine ru (rn_iload_n (pc := 2) (dd bL_closes dL_closes_2) rfl) ?_
  refine ru (rn_iload_n (pc := 3) (dd bL_closes dL_closes_3) rfl) ?_
  refine ru ((rg_virtual (pc := 4) (dd bL_closes dL_closes_4) rfl rfl (by decide) (kc := 33) rfl (s) (as := [(1, 3), (0, b), (0, c), (0, d)]) rfl ⟨Nat.le_of_ble_eq_true rfl, Nat.le_of_ble_eq_true rfl, Nat.le_of_ble_eq_true rfl, Nat.le_of_ble_eq_true rfl⟩).trans (vret_v e)) ?_
  refine ru ((rn_if_eq (t := 14) (pc := 7) (dd bL_closes dL_closes_7) rfl).trans (if_pos (by decide))) ?_
  refine ru (rn_iconst (pc := 14) (dd bL_closes dL_closes_14) (by decide)) ?_
  exact ru_end (rn_ireturn (pc := 15) (dd bL_closes dL_closes_15) (Or.inl rfl)) ⟨rfl, rfl⟩

theorem clv1 {h h1 : vH} {b c d : Int} (s : h 0 3 0 = 33) (e : vcl mX12_setClosed [(1, 3), (0, b), (0, c), (0, d)] h = some (.inl (some (0, 1)), h1)) : vcl mL_closes [(1, 3), (0, b), (0, c), (0, d)] h = some (.inl (some (0, 1)), h1) := by
  refine ru_eq ?_
  refine ru (show _ = vrun mL_closes 0 [(1, 3), (0, b), (0, c), (0, d), (9, 0)] [] h from rfl) ?_
  refine ru (rn_aload_n (pc := 0) (dd bL_closes dL_closes_0) rfl) ?_
  refine ru (rn_iload_n (pc := 1) (dd bL_closes dL_closes_1) rfl) ?_
  refine ru (rn_iload_n (pc := 2) (dd bL_closes dL_closes_2) rfl) ?_
  refine ru (rn_iload_n (pc := 3) (dd bL_closes dL_closes_3) rfl) ?_
  refine ru ((rg_virtual (pc := 4) (dd bL_closes dL_closes_4) rfl rfl (by decide) (kc := 33) rfl (s) (as := [(1, 3), (0, b), (0, c), (0, d)]) rfl ⟨Nat.le_of_ble_eq_true rfl, Nat.le_of_ble_eq_true rfl, Nat.le_of_ble_eq_true rfl, Nat.le_of_ble_eq_true rfl⟩).trans (vret_v e)) ?_
  refine ru ((rn_if_eq (t := 14) (pc := 7) (dd bL_closes dL_closes_7) rfl).trans (if_neg (by decide))) ?_
  refine ru (rn_iconst (pc := 10) (dd bL_closes dL_closes_10) (by decide)) ?_
  refine ru (rn_goto (t := 15) (pc := 11) (dd bL_closes dL_closes_11) rfl) ?_
  exact ru_end (rn_ireturn (pc := 15) (dd bL_closes dL_closes_15) (Or.inl rfl)) ⟨rfl, rfl⟩

theorem clx {h h1 : vH} {b c d : Int} (s : h 0 3 0 = 33) (e : vcl mX12_setClosed [(1, 3), (0, b), (0, c), (0, d)] h = some (.inr "java/lang/IllegalArgumentException", h1)) : vcl mL_closes [(1, 3), (0, b), (0, c), (0, d)] h = some (.inl (some (0, -12)), h1) := by
  refine ru_eq ?_
  refine ru (show _ = vrun mL_closes 0 [(1, 3), (0, b), (0, c), (0, d), (9, 0)] [] h from rfl) ?_
  refine ru (rn_aload_n (pc := 0) (dd bL_closes dL_closes_0) rfl) ?_
  refine ru (rn_iload_n (pc := 1) (dd bL_closes dL_closes_1) rfl) ?_
  refine ru (rn_iload_n (pc := 2) (dd bL_closes dL_closes_2) rfl) ?_
  refine ru (rn_iload_n (pc := 3) (dd bL_closes dL_closes_3) rfl) ?_
  refine ru ((rg_virtual (pc := 4) (dd bL_closes dL_closes_4) rfl rfl (by decide) (kc := 33) rfl (s) (as := [(1, 3), (0, b), (0, c), (0, d)]) rfl ⟨Nat.le_of_ble_eq_true rfl, Nat.le_of_ble_eq_true rfl, Nat.le_of_ble_eq_true rfl, Nat.le_of_ble_eq_true rfl⟩).trans (vret_h2 e (x := (0, 15, 16, 65, "java/lang/IllegalArgumentException")) (by decide +kernel) rfl (dd bL_closes dL_closes_16) (Nat.le_of_ble_eq_true rfl) (L2 := [(1, 3), (0, b), (0, c), (0, d), (9, 0)]) rfl)) ?_
  refine ru (rn_bipush (pc := 18) (dd bL_closes dL_closes_18) (by decide)) ?_
  exact ru_end (rn_ireturn (pc := 20) (dd bL_closes dL_closes_20) (Or.inl rfl)) ⟨rfl, rfl⟩

theorem L_screen {h a : vH} {n m : Int} (j : JG n m h a) : ∃ h1, vcl mL_isScreen [(1, 3)] h = some (.inl (some (0, 1)), h1) ∧ JG n (m + 4) h1 a := by
  have iH0 := j.2.1.1.1.2.1.2.2.1
  have b0 := (iH0 0 (by decide) (by decide)).1
  have b1 := (iH0 1 (by decide) (by decide)).1
  have b2 := (iH0 2 (by decide) (by decide)).1
  have b3 := (iH0 3 (by decide) (by decide)).1
  have tot : 0 + a 2 310 0 + a 2 310 1 + a 2 310 2 + a 2 310 3 = 24 := by have := j.2.1.2.1.2; omega
  refine ru_1 ?_
  refine ru (show _ = vrun mL_isScreen 0 [(1, 3), (9, 0), (9, 0)] [] h from rfl) ?_
  refine ru (rn_iconst (pc := 0) (dd bL_isScreen dL_isScreen_0) (by decide)) ?_
  refine ru (rn_istore_n (pc := 1) (dd bL_isScreen dL_isScreen_1) (Nat.le_of_ble_eq_true rfl) (L2 := [(1, 3), (0, 0), (9, 0)]) rfl) ?_
  refine ru (rn_iconst (pc := 2) (dd bL_isScreen dL_isScreen_2) (by decide)) ?_
  refine ru (rn_istore_n (pc := 3) (dd bL_isScreen dL_isScreen_3) (Nat.le_of_ble_eq_true rfl) (L2 := [(1, 3), (0, 0), (0, 0)]) rfl) ?_
  refine ru (rn_iload_n (pc := 4) (dd bL_isScreen dL_isScreen_4) rfl) ?_
  refine ru (rn_iconst (pc := 5) (dd bL_isScreen dL_isScreen_5) (by decide)) ?_
  refine ru ((rn_icmp_ge (t := 23) (pc := 6) (dd bL_isScreen dL_isScreen_6) rfl).trans (if_neg (by decide))) ?_
  refine ru (rn_iload_n (pc := 9) (dd bL_isScreen dL_isScreen_9) rfl) ?_
  refine ru (rn_aload_n (pc := 10) (dd bL_isScreen dL_isScreen_10) rfl) ?_
  refine ru (rn_iload_n (pc := 11) (dd bL_isScreen dL_isScreen_11) rfl) ?_
  obtain ⟨h1, e2, J3⟩ := S_height (p := 0) j (by omega)
  refine ru ((rg_virtual (pc := 12) (dd bL_isScreen dL_isScreen_12) rfl rfl (by decide) (kc := 33) rfl (jPL j) (as := [(1, 3), (0, 0)]) rfl ⟨Nat.le_of_ble_eq_true rfl, Nat.le_of_ble_eq_true rfl, Nat.le_of_ble_eq_true rfl, Nat.le_of_ble_eq_true rfl⟩).trans (vret_v e2)) ?_
  refine ru (rg_iadd (pc := 15) (dd bL_isScreen dL_isScreen_15) (by omega) (by omega)) ?_
  refine ru (rn_istore_n (pc := 16) (dd bL_isScreen dL_isScreen_16) (Nat.le_of_ble_eq_true rfl) (L2 := [(1, 3), (0, (0 + (a 2 310 0))), (0, 0)]) rfl) ?_
  refine ru (rg_iinc (pc := 17) (dd bL_isScreen dL_isScreen_17) rfl (Nat.le_of_ble_eq_true rfl) (by decide) (by decide) (L2 := [(1, 3), (0, (0 + (a 2 310 0))), (0, 1)]) rfl) ?_
  refine ru (rn_goto (t := 4) (pc := 20) (dd bL_isScreen dL_isScreen_20) rfl) ?_
  refine ru (rn_iload_n (pc := 4) (dd bL_isScreen dL_isScreen_4) rfl) ?_
  refine ru (rn_iconst (pc := 5) (dd bL_isScreen dL_isScreen_5) (by decide)) ?_
  refine ru ((rn_icmp_ge (t := 23) (pc := 6) (dd bL_isScreen dL_isScreen_6) rfl).trans (if_neg (by decide))) ?_
  refine ru (rn_iload_n (pc := 9) (dd bL_isScreen dL_isScreen_9) rfl) ?_
  refine ru (rn_aload_n (pc := 10) (dd bL_isScreen dL_isScreen_10) rfl) ?_
  refine ru (rn_iload_n (pc := 11) (dd bL_isScreen dL_isScreen_11) rfl) ?_
  obtain ⟨h4, e5, J6⟩ := S_height (p := 1) J3 (by omega)
  refine ru ((rg_virtual (pc := 12) (dd bL_isScreen dL_isScreen_12) rfl rfl (by decide) (kc := 33) rfl (jPL J3) (as := [(1, 3), (0, 1)]) rfl ⟨Nat.le_of_ble_eq_true rfl, Nat.le_of_ble_eq_true rfl, Nat.le_of_ble_eq_true rfl, Nat.le_of_ble_eq_true rfl⟩).trans (vret_v e5)) ?_
  refine ru (rg_iadd (pc := 15) (dd bL_isScreen dL_isScreen_15) (by omega) (by omega)) ?_
  refine ru (rn_istore_n (pc := 16) (dd bL_isScreen dL_isScreen_16) (Nat.le_of_ble_eq_true rfl) (L2 := [(1, 3), (0, ((0 + (a 2 310 0)) + (a 2 310 1))), (0, 1)]) rfl) ?_
  refine ru (rg_iinc (pc := 17) (dd bL_isScreen dL_isScreen_17) rfl (Nat.le_of_ble_eq_true rfl) (by decide) (by decide) (L2 := [(1, 3), (0, ((0 + (a 2 310 0)) + (a 2 310 1))), (0, 2)]) rfl) ?_
  refine ru (rn_goto (t := 4) (pc := 20) (dd bL_isScreen dL_isScreen_20) rfl) ?_
  refine ru (rn_iload_n (pc := 4) (dd bL_isScreen dL_isScreen_4) rfl) ?_
  refine ru (rn_iconst (pc := 5) (dd bL_isScreen dL_isScreen_5) (by decide)) ?_
  refine ru ((rn_icmp_ge (t := 23) (pc := 6) (dd bL_isScreen dL_isScreen_6) rfl).trans (if_neg (by decide))) ?_
  refine ru (rn_iload_n (pc := 9) (dd bL_isScreen dL_isScreen_9) rfl) ?_
  refine ru (rn_aload_n (pc := 10) (dd bL_isScreen dL_isScreen_10) rfl) ?_
  refine ru (rn_iload_n (pc := 11) (dd bL_isScreen dL_isScreen_11) rfl) ?_
  obtain ⟨h7, e8, J9⟩ := S_height (p := 2) J6 (by omega)
  refine ru ((rg_virtual (pc := 12) (dd bL_isScreen dL_isScreen_12) rfl rfl (by decide) (kc := 33) rfl (jPL J6) (as := [(1, 3), (0, 2)]) rfl ⟨Nat.le_of_ble_eq_true rfl, Nat.le_of_ble_eq_true rfl, Nat.le_of_ble_eq_true rfl, Nat.le_of_ble_eq_true rfl⟩).trans (vret_v e8)) ?_
  refine ru (rg_iadd (pc := 15) (dd bL_isScreen dL_isScreen_15) (by omega) (by omega)) ?_
  refine ru (rn_istore_n (pc := 16) (dd bL_isScreen dL_isScreen_16) (Nat.le_of_ble_eq_true rfl) (L2 := [(1, 3), (0, (((0 + (a 2 310 0)) + (a 2 310 1)) + (a 2 310 2))), (0, 2)]) rfl) ?_
  refine ru (rg_iinc (pc := 17) (dd bL_isScreen dL_isScreen_17) rfl (Nat.le_of_ble_eq_true rfl) (by decide) (by decide) (L2 := [(1, 3), (0, (((0 + (a 2 310 0)) + (a 2 310 1)) + (a 2 310 2))), (0, 3)]) rfl) ?_
  refine ru (rn_goto (t := 4) (pc := 20) (dd bL_isScreen dL_isScreen_20) rfl) ?_
  refine ru (rn_iload_n (pc := 4) (dd bL_isScreen dL_isScreen_4) rfl) ?_
  refine ru (rn_iconst (pc := 5) (dd bL_isScreen dL_isScreen_5) (by decide)) ?_
  refine ru ((rn_icmp_ge (t := 23) (pc := 6) (dd bL_isScreen dL_isScreen_6) rfl).trans (if_neg (by decide))) ?_
  refine ru (rn_iload_n (pc := 9) (dd bL_isScreen dL_isScreen_9) rfl) ?_
  refine ru (rn_aload_n (pc := 10) (dd bL_isScreen dL_isScreen_10) rfl) ?_
  refine ru (rn_iload_n (pc := 11) (dd bL_isScreen dL_isScreen_11) rfl) ?_
  obtain ⟨h10, e11, J12⟩ := S_height (p := 3) J9 (by omega)
  refine ru ((rg_virtual (pc := 12) (dd bL_isScreen dL_isScreen_12) rfl rfl (by decide) (kc := 33) rfl (jPL J9) (as := [(1, 3), (0, 3)]) rfl ⟨Nat.le_of_ble_eq_true rfl, Nat.le_of_ble_eq_true rfl, Nat.le_of_ble_eq_true rfl, Nat.le_of_ble_eq_true rfl⟩).trans (vret_v e11)) ?_
  refine ru (rg_iadd (pc := 15) (dd bL_isScreen dL_isScreen_15) (by omega) (by omega)) ?_
  refine ru (rn_istore_n (pc := 16) (dd bL_isScreen dL_isScreen_16) (Nat.le_of_ble_eq_true rfl) (L2 := [(1, 3), (0, ((((0 + (a 2 310 0)) + (a 2 310 1)) + (a 2 310 2)) + (a 2 310 3))), (0, 3)]) rfl) ?_
  refine ru (rg_iinc (pc := 17) (dd bL_isScreen dL_isScreen_17) rfl (Nat.le_of_ble_eq_true rfl) (by decide) (by decide) (L2 := [(1, 3), (0, ((((0 + (a 2 310 0)) + (a 2 310 1)) + (a 2 310 2)) + (a 2 310 3))), (0, 4)]) rfl) ?_
  refine ru (rn_goto (t := 4) (pc := 20) (dd bL_isScreen dL_isScreen_20) rfl) ?_
  refine ru (rn_iload_n (pc := 4) (dd bL_isScreen dL_isScreen_4) rfl) ?_
  refine ru (rn_iconst (pc := 5) (dd bL_isScreen dL_isScreen_5) (by decide)) ?_
  refine ru ((rn_icmp_ge (t := 23) (pc := 6) (dd bL_isScreen dL_isScreen_6) rfl).trans (if_pos (by decide))) ?_
  refine ru (rn_iload_n (pc := 23) (dd bL_isScreen dL_isScreen_23) rfl) ?_
  refine ru (rn_bipush (pc := 24) (dd bL_isScreen dL_isScreen_24) (by decide)) ?_
  refine ru ((rn_icmp_ne (t := 33) (pc := 26) (dd bL_isScreen dL_isScreen_26) rfl).trans (if_neg (fun z => z tot))) ?_
  refine ru (rn_iconst (pc := 29) (dd bL_isScreen dL_isScreen_29) (by decide)) ?_
  refine ru (rn_goto (t := 34) (pc := 30) (dd bL_isScreen dL_isScreen_30) rfl) ?_
  exact ru_end (rn_ireturn (pc := 34) (dd bL_isScreen dL_isScreen_34) (Or.inr ⟨rfl, Or.inr rfl⟩)) ⟨rfl, JG_le J12 (Int.le_refl _) (by omega)⟩
