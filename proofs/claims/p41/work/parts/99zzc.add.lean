/-! new objects, and one more in a list -/
def npl (h : vH) (r st l x : Int) : vH := vup (vup (vup h 900 r 0 st) 901 r 0 l) 902 r 0 x
/-- cells below N are the same, but for the counters -/
def nwF (N : Int) (h h2 : vH) : Prop := ∀ (k : Nat) (r i : Int), r < N → ¬ (r = 0 ∧ 3 ≤ k ∧ k ≤ 5) → h2 k r i = h k r i
section NEW
variable {h h2 a b : vH} {p q P Q X l x f u t j st r l0 x0 n d N E : Int} {ty len ns : Int}
theorem vnw_k0 : vnew h ty len ns 0 (h 3 0 0) 0 = ty := (if_pos rfl).trans (if_pos ⟨rfl, rfl⟩)
theorem vnw_l : vnew h ty len ns 1 (h 3 0 0) 0 = len := (if_pos rfl).trans ((if_neg (by decide)).trans (if_pos ⟨rfl, rfl⟩))
theorem vnw_o {k : Nat} {i : Int} (n : ¬ r = h 3 0 0) (m : ¬ (r = 0 ∧ 3 ≤ k ∧ k ≤ 5)) : vnew h ty len ns k r i = h k r i := by
  unfold vnew
  rw [if_neg n, if_neg (by omega), if_neg (by omega), if_neg (by omega)]
theorem vnw_3 (hN : ¬ h 3 0 0 = 0) : vnew h ty len ns 3 0 0 = h 3 0 0 + 1 := (if_neg (fun z => hN z.symm)).trans (if_pos ⟨rfl, rfl, rfl⟩)
theorem vnw_4 (hN : ¬ h 3 0 0 = 0) : vnew h ty len ns 4 0 0 = h 4 0 0 + 1 := (if_neg (fun z => hN z.symm)).trans ((if_neg (by decide)).trans (if_pos ⟨rfl, rfl, rfl⟩))
theorem vnw_5 (hN : ¬ h 3 0 0 = 0) : vnew h ty len ns 5 0 0 = h 5 0 0 + ns := (if_neg (fun z => hN z.symm)).trans ((if_neg (by decide)).trans ((if_neg (by decide)).trans (if_pos ⟨rfl, rfl, rfl⟩)))
theorem npl_o {k : Nat} {q i : Int} (n : ¬ (q = r ∧ 900 ≤ k ∧ k ≤ 902)) : npl h r st l x k q i = h k q i := by
  unfold npl vup
  rw [if_neg (by omega), if_neg (by omega), if_neg (by omega)]
theorem npl_p : cPl (npl h r st l x) r st l x := ⟨(vup_k (by decide)).trans ((vup_k (by decide)).trans vup_s), (vup_k (by decide)).trans vup_s, vup_s⟩
theorem C_plNew (hr : ¬ r = 0) (k : h 0 r 0 = 28) (hs : st = 0 ∨ st = 1) : vcl mX7_init [(1, r), (0, st), (0, l), (0, x)] h = some (.inl none, npl h r st l x) := show _ = _ from rX7_init_0 hr k hs ((vup_k (by decide)).trans k) ((vup_k (by decide)).trans ((vup_k (by decide)).trans k))
theorem C_spNew (hN : h 3 0 0 = N) (N0 : 282 ≤ N) : ∃ h2, vcl mX8_init [(1, N), (0, l), (0, f), (0, u)] (vnew h 29 0 2) = some (.inl none, h2) ∧ nwF N h h2 ∧ shSpan h2 N ∧ cPl h2 (N + 1) 1 l f ∧ cPl h2 (N + 2) 0 l u ∧ h2 3 0 0 = N + 3 ∧ h2 4 0 0 = h 4 0 0 + 3 ∧ h2 5 0 0 = h 5 0 0 + 8 := by
  have a3 : vnew h 29 0 2 3 0 0 = N + 1 := (vnw_3 (by omega)).trans (by rw [hN])
  have b3 : vnew (vnew h 29 0 2) 28 0 3 3 0 0 = N + 2 := (vnw_3 (by omega)).trans (by rw [a3]; omega)
  have b0 : vnew (vnew h 29 0 2) 28 0 3 0 (N + 1) 0 = 28 := by rw [← a3]; exact vnw_k0
  have c1 := C_plNew (h := vnew (vnew h 29 0 2) 28 0 3) (r := N + 1) (st := 1) (l := l) (x := f) (by omega) b0 (Or.inr rfl)
  have d3 : vup (npl (vnew (vnew h 29 0 2) 28 0 3) (N + 1) 1 l f) 1000 N 0 (N + 1) 3 0 0 = N + 2 := (vup_k (by decide)).trans ((npl_o (by omega)).trans b3)
  have e0 : vnew (vup (npl (vnew (vnew h 29 0 2) 28 0 3) (N + 1) 1 l f) 1000 N 0 (N + 1)) 28 0 3 0 (N + 2) 0 = 28 := by rw [← d3]; exact vnw_k0
  have e3 : vnew (vup (npl (vnew (vnew h 29 0 2) 28 0 3) (N + 1) 1 l f) 1000 N 0 (N + 1)) 28 0 3 3 0 0 = N + 3 := (vnw_3 (by omega)).trans (by rw [d3]; omega)
  have c2 := C_plNew (h := vnew (vup (npl (vnew (vnew h 29 0 2) 28 0 3) (N + 1) 1 l f) 1000 N 0 (N + 1)) 28 0 3) (r := N + 2) (st := 0) (l := l) (x := u) (by omega) e0 (Or.inl rfl)
  have kN1 : npl (vnew (vnew h 29 0 2) 28 0 3) (N + 1) 1 l f 0 N 0 = 29 := (npl_o (by omega)).trans ((vnw_o (by omega) (by omega)).trans (by rw [← hN]; exact vnw_k0))
  have rd : ∀ (k : Nat) (q i : Int), ¬ (k = 1000 ∨ k = 1001) → ¬ q = N + 2 → ¬ (q = 0 ∧ 3 ≤ k ∧ k ≤ 5) → vup (npl (vnew (vup (npl (vnew (vnew h 29 0 2) 28 0 3) (N + 1) 1 l f) 1000 N 0 (N + 1)) 28 0 3) (N + 2) 0 l u) 1001 N 0 (N + 2) k q i = npl (vnew (vnew h 29 0 2) 28 0 3) (N + 1) 1 l f k q i := fun k q i n1 n2 n3 => (vup_k (fun z => n1 (Or.inr z))).trans ((npl_o (fun z => n2 z.1)).trans ((vnw_o (by rw [d3]; exact n2) n3).trans (vup_k (fun z => n1 (Or.inl z)))))
  have kN : npl (vnew (vup (npl (vnew (vnew h 29 0 2) 28 0 3) (N + 1) 1 l f) 1000 N 0 (N + 1)) 28 0 3) (N + 2) 0 l u 0 N 0 = 29 := (npl_o (by omega)).trans ((vnw_o (by rw [d3]; omega) (by omega)).trans ((vup_k (by decide)).trans kN1))
  refine ⟨vup (npl (vnew (vup (npl (vnew (vnew h 29 0 2) 28 0 3) (N + 1) 1 l f) 1000 N 0 (N + 1)) 28 0 3) (N + 2) 0 l u) 1001 N 0 (N + 2), ?_, fun k q i v w => ?_, ⟨?_, ?_, ?_, vup_s, ?_⟩, ?_, ?_, ?_, ?_, ?_⟩
  · refine (show _ = _ from rX8_init_0 (by omega) (by rw [a3]; omega)).trans ?_
    rw [a3]
    refine (vret_n c1).trans ((rX8_init_15 kN1 (by rw [d3]; omega)).trans ?_)
    rw [d3]
    exact (vret_n c2).trans (rX8_init_29 kN)
  · refine (vup_r (by omega)).trans ((npl_o (by omega)).trans ((vnw_o (by rw [d3]; omega) w).trans ((vup_r (by omega)).trans ((npl_o (by omega)).trans ((vnw_o (by rw [a3]; omega) w).trans (vnw_o (by rw [hN]; omega) w))))))
  · exact (vup_k (by decide)).trans kN
  · exact (vup_k (by decide)).trans ((npl_o (by omega)).trans ((vnw_o (by rw [d3]; omega) (by omega)).trans vup_s))
  · exact (rd 0 (N + 1) 0 (by decide) (by omega) (by omega)).trans ((npl_o (by omega)).trans b0)
  · exact (vup_k (by decide)).trans ((npl_o (by omega)).trans e0)
  · have c := npl_p (h := vnew (vnew h 29 0 2) 28 0 3) (r := N + 1) (st := 1) (l := l) (x := f)
    exact ⟨(rd _ _ _ (by decide) (by omega) (by omega)).trans c.1, (rd _ _ _ (by decide) (by omega) (by omega)).trans c.2.1, (rd _ _ _ (by decide) (by omega) (by omega)).trans c.2.2⟩
  · have c := npl_p (h := vnew (vup (npl (vnew (vnew h 29 0 2) 28 0 3) (N + 1) 1 l f) 1000 N 0 (N + 1)) 28 0 3) (r := N + 2) (st := 0) (l := l) (x := u)
    exact ⟨(vup_k (by decide)).trans c.1, (vup_k (by decide)).trans c.2.1, (vup_k (by decide)).trans c.2.2⟩
  · exact (vup_k (by decide)).trans ((npl_o (by omega)).trans e3)
  · refine (vup_k (by decide)).trans ((npl_o (by omega)).trans ((vnw_4 (by omega)).trans ?_))
    rw [show vup (npl (vnew (vnew h 29 0 2) 28 0 3) (N + 1) 1 l f) 1000 N 0 (N + 1) 4 0 0 = vnew (vnew h 29 0 2) 28 0 3 4 0 0 from (vup_k (by decide)).trans (npl_o (by omega)), vnw_4 (by omega), vnw_4 (by omega)]
    omega
  · refine (vup_k (by decide)).trans ((npl_o (by omega)).trans ((vnw_5 (by omega)).trans ?_))
    rw [show vup (npl (vnew (vnew h 29 0 2) 28 0 3) (N + 1) 1 l f) 1000 N 0 (N + 1) 5 0 0 = vnew (vnew h 29 0 2) 28 0 3 5 0 0 from (vup_k (by decide)).trans (npl_o (by omega)), vnw_5 (by omega), vnw_5 (by omega)]
    omega
theorem C_viNew (hN : h 3 0 0 = N) (N0 : 282 ≤ N) : ∃ h2, vcl mX11_init [(1, N), (0, l), (0, f), (2, u)] (vnew h 32 0 2) = some (.inl none, h2) ∧ nwF N h h2 ∧ shVirtual h2 N ∧ cPl h2 (N + 1) 0 l f ∧ h2 1301 N 0 = u ∧ h2 3 0 0 = N + 2 ∧ h2 4 0 0 = h 4 0 0 + 2 ∧ h2 5 0 0 = h 5 0 0 + 5 := by
  have a3 : vnew h 32 0 2 3 0 0 = N + 1 := (vnw_3 (by omega)).trans (by rw [hN])
  have b3 : vnew (vnew h 32 0 2) 28 0 3 3 0 0 = N + 2 := (vnw_3 (by omega)).trans (by rw [a3]; omega)
  have b0 : vnew (vnew h 32 0 2) 28 0 3 0 (N + 1) 0 = 28 := by rw [← a3]; exact vnw_k0
  have c1 := C_plNew (h := vnew (vnew h 32 0 2) 28 0 3) (r := N + 1) (st := 0) (l := l) (x := f) (by omega) b0 (Or.inl rfl)
  have kN1 : npl (vnew (vnew h 32 0 2) 28 0 3) (N + 1) 0 l f 0 N 0 = 32 := (npl_o (by omega)).trans ((vnw_o (by omega) (by omega)).trans (by rw [← hN]; exact vnw_k0))
  have rd : ∀ (k : Nat) (q i : Int), ¬ (k = 1300 ∨ k = 1301) → vup (vup (npl (vnew (vnew h 32 0 2) 28 0 3) (N + 1) 0 l f) 1300 N 0 (N + 1)) 1301 N 0 u k q i = npl (vnew (vnew h 32 0 2) 28 0 3) (N + 1) 0 l f k q i := fun k q i n1 => (vup_k (fun z => n1 (Or.inr z))).trans (vup_k (fun z => n1 (Or.inl z)))
  refine ⟨vup (vup (npl (vnew (vnew h 32 0 2) 28 0 3) (N + 1) 0 l f) 1300 N 0 (N + 1)) 1301 N 0 u, ?_, fun k q i v w => ?_, ⟨?_, ?_, ?_⟩, ?_, vup_s, ?_, ?_, ?_⟩
  · refine (show _ = _ from rX11_init_0 (by omega) (by rw [a3]; omega)).trans ?_
    rw [a3]
    exact (vret_n c1).trans (rX11_init_15 kN1 ((vup_k (by decide)).trans kN1))
  · refine (vup_r (by omega)).trans ((vup_r (by omega)).trans ((npl_o (by omega)).trans ((vnw_o (by rw [a3]; omega) w).trans (vnw_o (by rw [hN]; omega) w))))
  · exact (rd _ _ _ (by decide)).trans kN1
  · exact (vup_k (by decide)).trans vup_s
  · exact (rd _ _ _ (by decide)).trans ((npl_o (by omega)).trans b0)
  · have c := npl_p (h := vnew (vnew h 32 0 2) 28 0 3) (r := N + 1) (st := 0) (l := l) (x := f)
    exact ⟨(rd _ _ _ (by decide)).trans c.1, (rd _ _ _ (by decide)).trans c.2.1, (rd _ _ _ (by decide)).trans c.2.2⟩
  · exact (rd _ _ _ (by decide)).trans ((npl_o (by omega)).trans b3)
  · refine (rd _ _ _ (by decide)).trans ((npl_o (by omega)).trans ?_)
    rw [vnw_4 (by omega), vnw_4 (by omega)]
    omega
  · refine (rd _ _ _ (by decide)).trans ((npl_o (by omega)).trans ?_)
    rw [vnw_5 (by omega), vnw_5 (by omega)]
    omega
theorem C_foNew (hN : h 3 0 0 = N) (N0 : 282 ≤ N) : ∃ h2, vcl mX1_init [(1, N), (0, f), (0, u)] (vnew h 22 0 3) = some (.inl none, h2) ∧ nwF N h h2 ∧ shFold h2 N ∧ h2 300 N 0 = f ∧ h2 301 N 0 = u ∧ h2 302 N 0 = 0 ∧ h2 3 0 0 = N + 1 ∧ h2 4 0 0 = h 4 0 0 + 1 ∧ h2 5 0 0 = h 5 0 0 + 3 := by
  have a3 : vnew h 22 0 3 3 0 0 = N + 1 := (vnw_3 (by omega)).trans (by rw [hN])
  have k0 : vnew h 22 0 3 0 N 0 = 22 := by rw [← hN]; exact vnw_k0
  have z0 : vnew h 22 0 3 302 N 0 = 0 := (if_pos hN.symm).trans ((if_neg (by decide)).trans (if_neg (by decide)))
  refine ⟨vup (vup (vnew h 22 0 3) 300 N 0 f) 301 N 0 u, show _ = _ from rX1_init_0 (by omega) k0 ((vup_k (by decide)).trans k0), fun k q i v w => ?_, ?_, ?_, vup_s, ?_, ?_, ?_, ?_⟩
  · exact (vup_r (by omega)).trans ((vup_r (by omega)).trans (vnw_o (by rw [hN]; omega) w))
  · exact (vup_k (by decide)).trans ((vup_k (by decide)).trans k0)
  · exact (vup_k (by decide)).trans vup_s
  · exact (vup_k (by decide)).trans ((vup_k (by decide)).trans z0)
  · exact (vup_k (by decide)).trans ((vup_k (by decide)).trans a3)
  · exact (vup_k (by decide)).trans ((vup_k (by decide)).trans (vnw_4 (by omega)))
  · exact (vup_k (by decide)).trans ((vup_k (by decide)).trans (vnw_5 (by omega)))
/-- an empty list's array is the class's own, of a kind of its own -/
theorem rAdd10 {x0 x1 x2 x3 : Int} (p1 : h 0 x2 0 = 10) (s2 : shList h x0) (e : x3 = h 1 x2 0) : vrun mJx4a65c_add_72be8 0 [(1, x0), (1, x1), (1, x2), (0, x3)] [] h = vret vrun mJx4a65c_add_72be8 7 [(1, x0), (1, x1), (1, x2), (0, x3)] [] (vcl mJx4a65c_grow_d5877 [(1, x0)] h) := by
  refine (rn_iload_n (pc := 0) (dd bJx4a65c_add_72be8 dJx4a65c_add_72be8_0) rfl).trans ?_
  refine (rn_aload_n (pc := 1) (dd bJx4a65c_add_72be8 dJx4a65c_add_72be8_1) rfl).trans ?_
  refine (rg_alen (pc := 2) (dd bJx4a65c_add_72be8 dJx4a65c_add_72be8_2) (k := 10) p1 (by decide) rfl).trans ?_
  refine (rg_icmp_ne (t := 11) (pc := 3) (dd bJx4a65c_add_72be8 dJx4a65c_add_72be8_3) rfl).trans ((if_pos e).trans ?_)
  refine (rn_aload_n (pc := 6) (dd bJx4a65c_add_72be8 dJx4a65c_add_72be8_6) rfl).trans ?_
  exact rg_virtual (pc := 7) (dd bJx4a65c_add_72be8 dJx4a65c_add_72be8_7) rfl rfl (by decide) (kc := 20) rfl s2 (as := [(1, x0)]) rfl ⟨Nat.le_of_ble_eq_true rfl, Nat.le_of_ble_eq_true rfl, Nat.le_of_ble_eq_true rfl, Nat.le_of_ble_eq_true rfl⟩
theorem rGrow10 {x0 : Int} {x1 : Int} {h : vH} (p1 : h 0 x0 0 = 20) (p2 : h 0 (h 101 x0 0) 0 = 10) (p3 : ¬ (0 < h 1 (h 101 x0 0) 0)) (p4 : h 101 x0 0 ≠ 2 ∧ (1 : Int) ≠ 2) (p5 : h 101 x0 0 = 1) (p6 : max 10 x1 ≤ 100000) (p7 : (vnew h 6 (max 10 x1) (max 10 x1)) 0 x0 0 = 20) : vrun mJx4a65c_grow_92f84 0 [(1, x0), (0, x1), (9, 0), (9, 0)] [] h = some (.inl (some (1, h 3 0 0)), vup (vnew h 6 (max 10 x1) (max 10 x1)) 101 x0 0 (h 3 0 0)) := by
  refine (rn_aload_n (pc := 0) (dd bJx4a65c_grow_92f84 dJx4a65c_grow_92f84_0) rfl).trans ?_
  refine (rg_gf (pc := 1) (dd bJx4a65c_grow_92f84 dJx4a65c_grow_92f84_1) (ci := 0) (j := 1) rfl rfl (key := 101) rfl (kc := 20) rfl p1 rfl).trans ?_
  refine (rg_alen (pc := 4) (dd bJx4a65c_grow_92f84 dJx4a65c_grow_92f84_4) (k := 10) p2 (by decide) rfl).trans ?_
  refine (rn_istore_n (pc := 5) (dd bJx4a65c_grow_92f84 dJx4a65c_grow_92f84_5) (Nat.le_of_ble_eq_true rfl) rfl).trans ?_
  refine (rn_iload_n (pc := 6) (dd bJx4a65c_grow_92f84 dJx4a65c_grow_92f84_6) rfl).trans ?_
  refine (rn_if_gt (t := 20) (pc := 7) (dd bJx4a65c_grow_92f84 dJx4a65c_grow_92f84_7) rfl).trans ((if_neg p3).trans ?_)
  refine (rn_aload_n (pc := 10) (dd bJx4a65c_grow_92f84 dJx4a65c_grow_92f84_10) rfl).trans ?_
  refine (rg_gf (pc := 11) (dd bJx4a65c_grow_92f84 dJx4a65c_grow_92f84_11) (ci := 0) (j := 1) rfl rfl (key := 101) rfl (kc := 20) rfl p1 rfl).trans ?_
  refine (rn_getstatic (pc := 14) (dd bJx4a65c_grow_92f84 dJx4a65c_grow_92f84_14) rfl).trans ?_
  refine (rn_acmp_eq (t := 45) (pc := 17) (dd bJx4a65c_grow_92f84 dJx4a65c_grow_92f84_17) rfl p4).trans ((if_pos p5).trans ?_)
  refine (rn_aload_n (pc := 45) (dd bJx4a65c_grow_92f84 dJx4a65c_grow_92f84_45) rfl).trans ?_
  refine (rn_bipush (pc := 46) (dd bJx4a65c_grow_92f84 dJx4a65c_grow_92f84_46) (by decide)).trans ?_
  refine (rn_iload_n (pc := 48) (dd bJx4a65c_grow_92f84 dJx4a65c_grow_92f84_48) rfl).trans ?_
  refine (rg_max (pc := 49) (dd bJx4a65c_grow_92f84 dJx4a65c_grow_92f84_49) rfl ⟨Nat.le_of_ble_eq_true rfl, Nat.le_of_ble_eq_true rfl, Nat.le_of_ble_eq_true rfl⟩).trans ?_
  refine (rn_anewarray (pc := 52) (dd bJx4a65c_grow_92f84 dJx4a65c_grow_92f84_52) (ki := 6) rfl ⟨(by omega), p6⟩).trans ?_
  refine (rn_dup_x1 (pc := 55) (dd bJx4a65c_grow_92f84 dJx4a65c_grow_92f84_55) (by decide)).trans ?_
  refine (rg_pf (pc := 56) (dd bJx4a65c_grow_92f84 dJx4a65c_grow_92f84_56) (ci := 0) (j := 1) rfl (key := 101) rfl (kc := 20) rfl p7 rfl (by intro z; cases z) (by decide)).trans ?_
  exact rn_areturn (pc := 59) (dd bJx4a65c_grow_92f84 dJx4a65c_grow_92f84_59) rfl
/-- one more in a list -/
theorem C_ladd (sL : shList h r) (hn : h 102 r 0 = n) (n6 : 0 ≤ n ∧ n ≤ 6) (hd : h 101 r 0 = d) (D : d = 1 ∧ n = 0 ∨ h 0 d 0 = 6 ∧ h 1 d 0 = 10) (d1 : h 0 1 0 = 10 ∧ h 1 1 0 = 0) (kE : h 0 E 0 = 22 ∨ h 0 E 0 = 29 ∨ h 0 E 0 = 32) (hN : h 3 0 0 = N) (rN : 2 < r ∧ r < N) (EN : E < N) (dN : 0 < d ∧ d < N) : ∃ h2 d2, vcl mJx4a65c_add_9ea2d [(1, r), (1, E)] h = some (.inl (some (0, 1)), h2) ∧ (∀ (k : Nat) (q i : Int), q < N → ¬ (q = r ∧ 100 ≤ k ∧ k ≤ 102) → ¬ (k = 2 ∧ q = d2) → ¬ (q = 0 ∧ 3 ≤ k ∧ k ≤ 5) → h2 k q i = h k q i) ∧ h2 101 r 0 = d2 ∧ h2 102 r 0 = n + 1 ∧ h2 0 d2 0 = 6 ∧ h2 1 d2 0 = 10 ∧ (d2 = d ∧ ¬ d = 1 ∨ d2 = N) ∧ (∀ i, 0 ≤ i → i < n → h2 2 d2 i = h 2 d i) ∧ h2 2 d2 n = E ∧ (N ≤ h2 3 0 0 ∧ d2 < h2 3 0 0) ∧ h2 4 0 0 ≤ h 4 0 0 + 1 ∧ h2 5 0 0 ≤ h 5 0 0 + 10 := by
  have uk : ∀ (k : Nat) (q i : Int), ¬ k = 100 → vup h 100 r 0 (w32 (h 100 r 0 + 1)) k q i = h k q i := fun k q i e => vup_k e
  have e0 := (show vcl mJx4a65c_add_9ea2d [(1, r), (1, E)] h = _ from rJx4a65c_add_9ea2d_0 (x1 := E) sL)
  rw [show h 101 r 0 = d from hd, show h 102 r 0 = n from hn] at e0
  have sU : shList (vup h 100 r 0 (w32 (h 100 r 0 + 1))) r := (uk 0 r 0 (by decide)).trans sL
  by_cases z : d = 1
  · have n0 : n = 0 := D.elim (fun w => w.2) (fun w => by rw [z] at w; omega)
    subst z
    have u102 : vup h 100 r 0 (w32 (h 100 r 0 + 1)) 102 r 0 = 0 := (uk _ _ _ (by decide)).trans (hn.trans n0)
    have u101 : vup h 100 r 0 (w32 (h 100 r 0 + 1)) 101 r 0 = 1 := (uk _ _ _ (by decide)).trans hd
    have u3 : vup h 100 r 0 (w32 (h 100 r 0 + 1)) 3 0 0 = N := (uk _ _ _ (by decide)).trans hN
    have u01 : vup h 100 r 0 (w32 (h 100 r 0 + 1)) 0 1 0 = 10 := (uk _ _ _ (by decide)).trans d1.1
    have u11 : vup h 100 r 0 (w32 (h 100 r 0 + 1)) 1 1 0 = 0 := (uk _ _ _ (by decide)).trans d1.2
    have gk : vnew (vup h 100 r 0 (w32 (h 100 r 0 + 1))) 6 (max 10 1) (max 10 1) 0 r 0 = 20 := (vnw_o (by rw [u3]; omega) (by omega)).trans sU
    have eg := rGrow10 (x0 := r) (x1 := 1) (h := vup h 100 r 0 (w32 (h 100 r 0 + 1))) sU (by rw [u101]; exact u01) (by rw [u101, u11]; decide) (by rw [u101]; decide) u101 (by decide) gk
    rw [u3] at eg
    have gd := (show vcl mJx4a65c_grow_d5877 [(1, r)] (vup h 100 r 0 (w32 (h 100 r 0 + 1))) = _ from rJx4a65c_grow_d5877_0 sU (by rw [u102]; decide) (by rw [u102]; decide))
    rw [u102] at gd
    have gr := gd.trans ((vret_v eg).trans rJx4a65c_grow_d5877_10)
    have ea := (show vcl mJx4a65c_add_72be8 [(1, r), (1, E), (1, 1), (0, n)] (vup h 100 r 0 (w32 (h 100 r 0 + 1))) = _ from rAdd10 u01 sU (n0.trans u11.symm))
    have kY : vup (vnew (vup h 100 r 0 (w32 (h 100 r 0 + 1))) 6 (max 10 1) (max 10 1)) 101 r 0 N 0 N 0 = 6 := by
      refine (vup_k (by decide)).trans ?_
      rw [← u3]
      exact vnw_k0
    have lY : vup (vnew (vup h 100 r 0 (w32 (h 100 r 0 + 1))) 6 (max 10 1) (max 10 1)) 101 r 0 N 1 N 0 = 10 := by
      refine (vup_k (by decide)).trans ?_
      rw [← u3]
      exact vnw_l
    have kE2 : ∀ v, h 0 E 0 = v → vup (vnew (vup h 100 r 0 (w32 (h 100 r 0 + 1))) 6 (max 10 1) (max 10 1)) 101 r 0 N 0 E 0 = v := fun v e => (vup_k (by decide)).trans ((vnw_o (by rw [u3]; omega) (by omega)).trans ((uk _ _ _ (by decide)).trans e))
    have sY : shList (vup (vnew (vup h 100 r 0 (w32 (h 100 r 0 + 1))) 6 (max 10 1) (max 10 1)) 101 r 0 N) r := (vup_k (by decide)).trans gk
    have fin := e0.trans ((vret_n (ea.trans ((vret_v gr).trans (rJx4a65c_add_72be8_10 kY (kE.imp (kE2 _) (fun w => w.imp (kE2 _) (kE2 _))) n6.1 (by rw [lY]; omega) (by omega) sY)))).trans rJx4a65c_add_9ea2d_23)
    refine ⟨_, N, fin, fun k q i v w y y2 => ?_, (vup_k (by decide)).trans ((vup_k (by decide)).trans vup_s), vup_s, (vup_k (by decide)).trans ((vup_k (by decide)).trans kY), (vup_k (by decide)).trans ((vup_k (by decide)).trans lY), Or.inr rfl, fun i v w => by omega, (vup_k (by decide)).trans vup_s, ?_, ?_, ?_⟩
    · have e1 : vnew (vup h 100 r 0 (w32 (h 100 r 0 + 1))) 6 (max 10 1) (max 10 1) k q i = h k q i := by
        rw [vnw_o (by rw [u3]; omega) y2]
        unfold vup
        rw [if_neg (by omega)]
      rw [← e1]
      unfold vup
      rw [if_neg (by omega), if_neg (by omega), if_neg (by omega)]
    · have e1 : vnew (vup h 100 r 0 (w32 (h 100 r 0 + 1))) 6 (max 10 1) (max 10 1) 3 0 0 = N + 1 := (vnw_3 (by omega)).trans (by rw [u3])
      have e2 : vup (vup (vup (vnew (vup h 100 r 0 (w32 (h 100 r 0 + 1))) 6 (max 10 1) (max 10 1)) 101 r 0 N) 2 N n E) 102 r 0 (n + 1) 3 0 0 = N + 1 := (vup_k (by decide)).trans ((vup_k (by decide)).trans ((vup_k (by decide)).trans e1))
      rw [e2]; omega
    · have e1 : vnew (vup h 100 r 0 (w32 (h 100 r 0 + 1))) 6 (max 10 1) (max 10 1) 4 0 0 = h 4 0 0 + 1 := vnw_4 (by omega)
      have e2 : vup (vup (vup (vnew (vup h 100 r 0 (w32 (h 100 r 0 + 1))) 6 (max 10 1) (max 10 1)) 101 r 0 N) 2 N n E) 102 r 0 (n + 1) 4 0 0 = h 4 0 0 + 1 := (vup_k (by decide)).trans ((vup_k (by decide)).trans ((vup_k (by decide)).trans e1))
      rw [e2]; omega
    · have e1 : vnew (vup h 100 r 0 (w32 (h 100 r 0 + 1))) 6 (max 10 1) (max 10 1) 5 0 0 = h 5 0 0 + 10 := vnw_5 (by omega)
      have e2 : vup (vup (vup (vnew (vup h 100 r 0 (w32 (h 100 r 0 + 1))) 6 (max 10 1) (max 10 1)) 101 r 0 N) 2 N n E) 102 r 0 (n + 1) 5 0 0 = h 5 0 0 + 10 := (vup_k (by decide)).trans ((vup_k (by decide)).trans ((vup_k (by decide)).trans e1))
      rw [e2]; omega
  · obtain ⟨D1, D2⟩ := D.resolve_left (fun w => z w.1)
    have ud : vup h 100 r 0 (w32 (h 100 r 0 + 1)) 0 d 0 = 6 := (uk _ _ _ (by decide)).trans D1
    have ul : vup h 100 r 0 (w32 (h 100 r 0 + 1)) 1 d 0 = 10 := (uk _ _ _ (by decide)).trans D2
    have uE : vup h 100 r 0 (w32 (h 100 r 0 + 1)) 0 E 0 = h 0 E 0 := uk _ _ _ (by decide)
    have ea := (show vcl mJx4a65c_add_72be8 [(1, r), (1, E), (1, d), (0, n)] (vup h 100 r 0 (w32 (h 100 r 0 + 1))) = _ from rJx4a65c_add_72be8_0 ud sU (fun _ => by rw [uE]; exact kE) (fun _ => n6.1) (fun _ => by rw [ul]; omega) (fun _ => by omega)).trans (if_neg (by rw [ul]; omega))
    refine ⟨_, d, e0.trans ((vret_n ea).trans rJx4a65c_add_9ea2d_23), fun k q i v w y y2 => ?_, (vup_k (by decide)).trans ((vup_k (by decide)).trans ((uk _ _ _ (by decide)).trans hd)), vup_s, (vup_k (by decide)).trans ((vup_k (by decide)).trans ud), (vup_k (by decide)).trans ((vup_k (by decide)).trans ul), Or.inl ⟨rfl, z⟩, fun i v w => ?_, (vup_k (by decide)).trans vup_s, ?_, ?_, ?_⟩
    · unfold vup
      rw [if_neg (by omega), if_neg (by omega), if_neg (by omega)]
    · exact (vup_k (by decide)).trans ((vup_i (by omega)).trans (uk _ _ _ (by decide)))
    · have e2 : vup (vup (vup h 100 r 0 (w32 (h 100 r 0 + 1))) 2 d n E) 102 r 0 (n + 1) 3 0 0 = N := (vup_k (by decide)).trans ((vup_k (by decide)).trans ((vup_k (by decide)).trans hN))
      rw [e2]; omega
    · have e2 : vup (vup (vup h 100 r 0 (w32 (h 100 r 0 + 1))) 2 d n E) 102 r 0 (n + 1) 4 0 0 = h 4 0 0 := (vup_k (by decide)).trans ((vup_k (by decide)).trans (vup_k (by decide)))
      rw [e2]; omega
    · have e2 : vup (vup (vup h 100 r 0 (w32 (h 100 r 0 + 1))) 2 d n E) 102 r 0 (n + 1) 5 0 0 = h 5 0 0 := (vup_k (by decide)).trans ((vup_k (by decide)).trans (vup_k (by decide)))
      rw [e2]; omega
end NEW

