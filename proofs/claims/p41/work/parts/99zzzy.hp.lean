/-! CONSTRUCTORS: a heap with cells that were made. hp h cs s = h with the cells cs (their contents) made behind its last one, s slots more. -/
abbrev cC : Type := Nat → Int → Int
def cZ : cC := fun _ _ => 0
/-- an object's content: its kind and its fields that were written -/
def cO (ty : Int) (F : List (Nat × Int)) : cC := fun k i => if i = 0 then (if k = 0 then ty else (F.lookup k).getD 0) else 0
/-- an array's content: kind, length, the first elements -/
def xA (ty len : Int) (W : List Int) : cC := fun k i => if k = 2 then (if 0 ≤ i then W.getD i.toNat 0 else 0) else if i = 0 then (if k = 0 then ty else if k = 1 then len else 0) else 0
def cup (c : cC) (k : Nat) (i v : Int) : cC := fun k' i' => if k' = k ∧ i' = i then v else c k' i'
def hp (h : vH) (cs : List cC) (s : Int) : vH := fun k q i =>
  if q = 0 then (if i = 0 then (if k = 3 then h 3 0 0 + cs.length else if k = 4 then h 4 0 0 + cs.length else if k = 5 then h 5 0 0 + s else h k 0 0) else h k 0 i)
  else if h 3 0 0 ≤ q ∧ q < h 3 0 0 + cs.length then (cs.getD (q - h 3 0 0).toNat cZ) k i else h k q i
section HP
variable {h : vH} {cs ds : List cC} {s t r q i v : Int} {j k : Nat} {c c2 : cC}
theorem hp_3 : hp h cs s 3 0 0 = h 3 0 0 + cs.length := by
  unfold hp
  rw [if_pos rfl, if_pos rfl, if_pos rfl]
theorem hp_4 : hp h cs s 4 0 0 = h 4 0 0 + cs.length := by
  unfold hp
  rw [if_pos rfl, if_pos rfl, if_neg (by decide), if_pos rfl]
theorem hp_5 : hp h cs s 5 0 0 = h 5 0 0 + s := by
  unfold hp
  rw [if_pos rfl, if_pos rfl, if_neg (by decide), if_neg (by decide), if_pos rfl]
theorem hp_rd (hr : h 3 0 0 = r) (h0 : 0 < r) (hq : q = r + j) (hc : cs[j]? = some c) : hp h cs s k q i = c k i := by
  subst hr
  have hj : j < cs.length := by
    rcases List.getElem?_eq_some_iff.mp hc with ⟨a, -⟩
    exact a
  unfold hp
  rw [if_neg (by omega), if_pos ⟨by omega, by omega⟩]
  have e : (q - h 3 0 0).toNat = j := by omega
  rw [e, List.getD_eq_getElem?_getD, hc]
  rfl
theorem hp_hp (h0 : 0 < h 3 0 0) : hp (hp h cs s) ds t = hp h (cs ++ ds) (s + t) := by
  funext k q i
  have e3 : hp h cs s 3 0 0 = h 3 0 0 + cs.length := hp_3
  have e4 : hp h cs s 4 0 0 = h 4 0 0 + cs.length := hp_4
  have e5 : hp h cs s 5 0 0 = h 5 0 0 + s := hp_5
  have el : ((cs ++ ds).length : Int) = cs.length + ds.length := by rw [List.length_append]; exact Int.natCast_add ..
  by_cases a : q = 0
  · subst a
    by_cases b : i = 0
    · subst b
      by_cases k3 : k = 3
      · subst k3
        rw [hp_3, e3, hp_3, el]; omega
      · by_cases k4 : k = 4
        · subst k4
          rw [hp_4, e4, hp_4, el]; omega
        · by_cases k5 : k = 5
          · subst k5
            rw [hp_5, e5, hp_5]; omega
          · unfold hp
            simp only [if_true, if_neg k3, if_neg k4, if_neg k5]
    · unfold hp
      simp only [if_true, if_neg b]
  · have x1 : hp (hp h cs s) ds t k q i = if h 3 0 0 + cs.length ≤ q ∧ q < h 3 0 0 + cs.length + ds.length then (ds.getD (q - (h 3 0 0 + cs.length)).toNat cZ) k i else hp h cs s k q i := by
      rw [← e3]
      exact if_neg a
    have x2 : hp h cs s k q i = if h 3 0 0 ≤ q ∧ q < h 3 0 0 + cs.length then (cs.getD (q - h 3 0 0).toNat cZ) k i else h k q i := if_neg a
    have x3 : hp h (cs ++ ds) (s + t) k q i = if h 3 0 0 ≤ q ∧ q < h 3 0 0 + ((cs ++ ds).length : Int) then ((cs ++ ds).getD (q - h 3 0 0).toNat cZ) k i else h k q i := if_neg a
    rw [x1, x3, el]
    by_cases b : h 3 0 0 + cs.length ≤ q ∧ q < h 3 0 0 + cs.length + ds.length
    · rw [if_pos b, if_pos ⟨by omega, by omega⟩, List.getD_eq_getElem?_getD, List.getD_eq_getElem?_getD, List.getElem?_append_right (by omega)]
      have e : (q - (h 3 0 0 + cs.length)).toNat = (q - h 3 0 0).toNat - cs.length := by omega
      rw [e]
    · rw [if_neg b, x2]
      by_cases d : h 3 0 0 ≤ q ∧ q < h 3 0 0 + cs.length
      · rw [if_pos d, if_pos ⟨by omega, by omega⟩, List.getD_eq_getElem?_getD, List.getD_eq_getElem?_getD, List.getElem?_append_left (by omega)]
      · rw [if_neg d, if_neg (by omega)]
theorem hp_nO {ty ns : Int} (h0 : 0 < h 3 0 0) : vnew h ty 0 ns = hp h [cO ty []] ns := by
  funext k q i
  by_cases a : q = 0
  · subst a
    by_cases b : i = 0
    · subst b
      by_cases k3 : k = 3
      · subst k3; rw [hp_3, vnew_nx (by omega)]; rfl
      · by_cases k4 : k = 4
        · subst k4; rw [hp_4, vnew_nc (by omega)]; rfl
        · by_cases k5 : k = 5
          · subst k5; rw [hp_5, vnew_ns (by omega)]
          · rw [vnew_k ⟨k3, k4, k5⟩ (by omega)]
            unfold hp
            simp only [if_true, if_neg k3, if_neg k4, if_neg k5]
    · unfold hp vnew
      simp only [if_true, if_neg b, b, false_and, and_false, if_false]
      rw [if_neg (by omega)]
  · by_cases b : q = h 3 0 0
    · rw [hp_rd (r := h 3 0 0) (j := 0) rfl h0 (by omega) rfl, b, vnew_at]
      unfold cO
      by_cases c : i = 0
      · subst c
        rw [if_pos rfl]
        by_cases d : k = 0
        · rw [if_pos ⟨d, rfl⟩, if_pos d]
        · rw [if_neg (fun z => d z.1), if_neg d]
          by_cases e : k = 1
          · rw [if_pos ⟨e, rfl⟩]; rfl
          · rw [if_neg (fun z => e z.1)]; rfl
      · rw [if_neg c, if_neg (fun z => c z.2), if_neg (fun z => c z.2)]
    · rw [vnew_lt b a]
      unfold hp
      rw [if_neg a, if_neg (by simp only [List.length_singleton]; omega)]
theorem hp_nA {ty n ns : Int} (h0 : 0 < h 3 0 0) : vnew h ty n ns = hp h [xA ty n []] ns := by
  funext k q i
  by_cases a : q = 0
  · subst a
    by_cases b : i = 0
    · subst b
      by_cases k3 : k = 3
      · subst k3; rw [hp_3, vnew_nx (by omega)]; rfl
      · by_cases k4 : k = 4
        · subst k4; rw [hp_4, vnew_nc (by omega)]; rfl
        · by_cases k5 : k = 5
          · subst k5; rw [hp_5, vnew_ns (by omega)]
          · rw [vnew_k ⟨k3, k4, k5⟩ (by omega)]
            unfold hp
            simp only [if_true, if_neg k3, if_neg k4, if_neg k5]
    · unfold hp vnew
      simp only [if_true, if_neg b, b, false_and, and_false, if_false]
      rw [if_neg (by omega)]
  · by_cases b : q = h 3 0 0
    · rw [hp_rd (r := h 3 0 0) (j := 0) rfl h0 (by omega) rfl, b, vnew_at]
      unfold xA
      by_cases k2 : k = 2
      · subst k2
        rw [if_neg (by omega), if_neg (by omega), if_pos rfl]
        split <;> simp
      · rw [if_neg k2]
        by_cases c : i = 0
        · subst c
          simp only [and_true, if_true]
        · rw [if_neg c, if_neg (fun z => c z.2), if_neg (fun z => c z.2)]
    · rw [vnew_lt b a]
      unfold hp
      rw [if_neg a, if_neg (by simp only [List.length_singleton]; omega)]
theorem hp_up (hr : h 3 0 0 = r) (h0 : 0 < r) (hq : q = r + j) (hc : cs[j]? = some c) (he : cup c k i v = c2) : vup (hp h cs s) k q i v = hp h (cs.set j c2) s := by
  subst hr
  subst he
  have hj : j < cs.length := by
    rcases List.getElem?_eq_some_iff.mp hc with ⟨a, -⟩
    exact a
  funext k' q' i'
  by_cases b : q' = q
  · rw [b, hp_rd (r := h 3 0 0) (j := j) (c := cup c k i v) rfl h0 hq (by rw [List.getElem?_set_self hj])]
    unfold vup cup
    rw [hp_rd (r := h 3 0 0) rfl h0 hq hc]
    simp only [true_and]
  · rw [vup_nr b]
    unfold hp
    rw [List.length_set]
    by_cases d : q' = 0
    · simp only [if_pos d]
    · rw [if_neg d, if_neg d]
      by_cases e : h 3 0 0 ≤ q' ∧ q' < h 3 0 0 + cs.length
      · rw [if_pos e, if_pos e, List.getD_eq_getElem?_getD, List.getD_eq_getElem?_getD, List.getElem?_set_ne (by omega)]
      · rw [if_neg e, if_neg e]
theorem cup_O {ty : Int} {F : List (Nat × Int)} (hk : k ≠ 0) : cup (cO ty F) k 0 v = cO ty ((k, v) :: F) := by
  funext k' i'
  unfold cup cO
  by_cases a : i' = 0
  · subst a
    rw [if_pos rfl, if_pos rfl, List.lookup_cons]
    by_cases b : k' = k
    · subst b
      rw [if_pos ⟨rfl, rfl⟩, if_neg hk, beq_self_eq_true]
      rfl
    · rw [if_neg (fun z => b z.1)]
      have e : (k' == k) = false := by simp [b]
      rw [e]
  · rw [if_neg (fun z => a z.2), if_neg a, if_neg a]
theorem cup_A {ty n : Int} {W : List Int} (hi : i = W.length) : cup (xA ty n W) 2 i v = xA ty n (W ++ [v]) := by
  subst hi
  funext k' i'
  unfold cup xA
  by_cases a : k' = 2
  · subst a
    rw [if_pos rfl, if_pos rfl]
    by_cases b : 0 ≤ i'
    · rw [if_pos b, if_pos b, List.getD_eq_getElem?_getD, List.getD_eq_getElem?_getD]
      by_cases c : i' = W.length
      · subst c
        rw [if_pos ⟨rfl, rfl⟩, Int.toNat_natCast, List.getElem?_append_right (Nat.le_refl _), Nat.sub_self]
        rfl
      · rw [if_neg (fun z => c z.2)]
        by_cases d : i' < W.length
        · rw [List.getElem?_append_left (by omega)]
        · rw [List.getElem?_eq_none (by omega), List.getElem?_eq_none (by rw [List.length_append, List.length_singleton]; omega)]
    · rw [if_neg (by omega), if_neg b, if_neg b]
  · rw [if_neg (fun z => a z.1), if_neg a, if_neg a]
end HP
section HQ
variable {m : vM} {pc : Nat} {L S : List vv} {h : vH} {cs cs2 : List cC} {s s2 r q : Int}
theorem rk_new {k ci : Nat} {kc nn : Int} (hr : h 3 0 0 = r) (h0 : 0 < r) (d : decode (vmB m) pc = .ok (.new k, 3)) (hx : vxt (vmC m) k = none) (hn : vnr (vmC m) k = some ci) (hc : 20 + (ci : Int) = kc) (hv : ((vn ci : Nat) : Int) = nn) (hq : r + (cs.length : Int) = q) (he : cs ++ [cO kc []] = cs2) (hs : s + nn = s2) : vrun m pc L S (hp h cs s) = vrun m (pc + 3) L ((1, q) :: S) (hp h cs2 s2) := by
  subst hr; subst hq; subst he; subst hs
  refine (rg_new d hx hn hc hv).trans ?_
  rw [hp_3, hp_nO (by rw [hp_3]; omega), hp_hp h0]
theorem rk_int {n : Int} (hr : h 3 0 0 = r) (h0 : 0 < r) (d : decode (vmB m) pc = .ok (.newarray .int, 2)) (hn : 0 ≤ n ∧ n ≤ 100000) (hq : r + (cs.length : Int) = q) (he : cs ++ [xA 1 n []] = cs2) (hs : s + n = s2) : vrun m pc L ((0, n) :: S) (hp h cs s) = vrun m (pc + 2) L ((1, q) :: S) (hp h cs2 s2) := by
  subst hr; subst hq; subst he; subst hs
  refine (rn_new_int d hn).trans ?_
  rw [hp_3, hp_nA (by rw [hp_3]; omega), hp_hp h0]
theorem rk_boolean {n : Int} (hr : h 3 0 0 = r) (h0 : 0 < r) (d : decode (vmB m) pc = .ok (.newarray .boolean, 2)) (hn : 0 ≤ n ∧ n ≤ 100000) (hq : r + (cs.length : Int) = q) (he : cs ++ [xA 2 n []] = cs2) (hs : s + n = s2) : vrun m pc L ((0, n) :: S) (hp h cs s) = vrun m (pc + 2) L ((1, q) :: S) (hp h cs2 s2) := by
  subst hr; subst hq; subst he; subst hs
  refine (rn_new_boolean d hn).trans ?_
  rw [hp_3, hp_nA (by rw [hp_3]; omega), hp_hp h0]
theorem rk_anew {k ki : Nat} {n kc : Int} (hr : h 3 0 0 = r) (h0 : 0 < r) (d : decode (vmB m) pc = .ok (.anewarray k, 3)) (hk : vaq (vmC m) k = some ki) (hkc : (ki : Int) = kc) (hn : 0 ≤ n ∧ n ≤ 100000) (hq : r + (cs.length : Int) = q) (he : cs ++ [xA kc n []] = cs2) (hs : s + n = s2) : vrun m pc L ((0, n) :: S) (hp h cs s) = vrun m (pc + 3) L ((1, q) :: S) (hp h cs2 s2) := by
  subst hr; subst hq; subst he; subst hs; subst hkc
  refine (rn_anewarray d hk hn).trans ?_
  rw [hp_3, hp_nA (by rw [hp_3]; omega), hp_hp h0]
theorem rk_pf {k ci j t key jj : Nat} {b : Bool} {v kc : Int} {F : List (Nat × Int)} (hr : h 3 0 0 = r) (h0 : 0 < r) (d : decode (vmB m) pc = .ok (.putfield k, 3)) (hf : vfr (vmC m) k = some (ci, j, b)) (hk : vfc ci j = key) (hc : 20 + (ci : Int) = kc) (hq : q = r + (jj : Int)) (hcs : cs[jj]? = some (cO kc F)) (ht : t = vkd (vtyp ci j)) (hb : vtyp ci j = FieldType.boolean → v = 0 ∨ v = 1) (hfin : vfin ci j = true → (vmY m).name = "<init>" ∧ vmC m = ci) (h100 : key ≠ 0) (he : cs.set jj (cO kc ((key, v) :: F)) = cs2) : vrun m pc L ((t, v) :: (1, q) :: S) (hp h cs s) = vrun m (pc + 3) L S (hp h cs2 s) := by
  subst he
  refine (rg_pf d hf hk hc (by rw [hp_rd hr h0 hq hcs]; rfl) ht hb hfin).trans ?_
  rw [hp_up hr h0 hq hcs (cup_O h100)]
theorem rk_gf {k ci j t key jj : Nat} {b : Bool} {v kc : Int} {F : List (Nat × Int)} (hr : h 3 0 0 = r) (h0 : 0 < r) (d : decode (vmB m) pc = .ok (.getfield k, 3)) (hf : vfr (vmC m) k = some (ci, j, b)) (ht : vkd (vtyp ci j) = t) (hk : vfc ci j = key) (hc : 20 + (ci : Int) = kc) (hq : q = r + (jj : Int)) (hcs : cs[jj]? = some (cO kc F)) (hv : cO kc F key 0 = v) : vrun m pc L ((1, q) :: S) (hp h cs s) = vrun m (pc + 3) L ((t, v) :: S) (hp h cs s) :=
  rg_gf d hf ht hk hc (by rw [hp_rd hr h0 hq hcs]; rfl) (by rw [hp_rd hr h0 hq hcs]; exact hv)
theorem rk_iastore {i n v : Int} {jj : Nat} {W : List Int} (hr : h 3 0 0 = r) (h0 : 0 < r) (d : decode (vmB m) pc = .ok (.iastore, 1)) (hq : q = r + (jj : Int)) (hcs : cs[jj]? = some (xA 1 n W)) (hi : i = W.length) (h1 : i < n) (he : cs.set jj (xA 1 n (W ++ [v])) = cs2) : vrun m pc L ((0, v) :: (0, i) :: (1, q) :: S) (hp h cs s) = vrun m (pc + 1) L S (hp h cs2 s) := by
  subst he
  refine (rg_iastore (n := n) d (by rw [hp_rd hr h0 hq hcs]; rfl) (by rw [hp_rd hr h0 hq hcs]; rfl) (by omega) h1).trans ?_
  rw [hp_up hr h0 hq hcs (cup_A hi)]
theorem rk_bastore {i n v : Int} {jj : Nat} {W : List Int} (hr : h 3 0 0 = r) (h0 : 0 < r) (d : decode (vmB m) pc = .ok (.bastore, 1)) (hv : v = 0 ∨ v = 1) (hq : q = r + (jj : Int)) (hcs : cs[jj]? = some (xA 2 n W)) (hi : i = W.length) (h1 : i < n) (he : cs.set jj (xA 2 n (W ++ [v])) = cs2) : vrun m pc L ((0, v) :: (0, i) :: (1, q) :: S) (hp h cs s) = vrun m (pc + 1) L S (hp h cs2 s) := by
  subst he
  refine (rg_bastore (n := n) d (by rw [hp_rd hr h0 hq hcs]; rfl) (by rw [hp_rd hr h0 hq hcs]; rfl) (by omega) h1 hv).trans ?_
  rw [hp_up hr h0 hq hcs (cup_A hi)]
theorem rk_aastore {i n v kd kv : Int} {jj j2 : Nat} {W : List Int} {F : List (Nat × Int)} (hr : h 3 0 0 = r) (h0 : 0 < r) (d : decode (vmB m) pc = .ok (.aastore, 1)) (hk : (kd = 4 ∧ kv = 25) ∨ (kd = 5 ∧ kv = 26)) (hq : q = r + (jj : Int)) (hcs : cs[jj]? = some (xA kd n W)) (hv : v = r + (j2 : Int)) (hcv : cs[j2]? = some (cO kv F)) (hi : i = W.length) (h1 : i < n) (he : cs.set jj (xA kd n (W ++ [v])) = cs2) : vrun m pc L ((1, v) :: (0, i) :: (1, q) :: S) (hp h cs s) = vrun m (pc + 1) L S (hp h cs2 s) := by
  subst he
  have ev : hp h cs s 0 v 0 = kv := by rw [hp_rd hr h0 hv hcv]; rfl
  refine (rg_aastore (n := n) (kc := kd) d (by rw [hp_rd hr h0 hq hcs]; rfl) (by rw [hp_rd hr h0 hq hcs]; rfl) (by omega) h1 ?_).trans ?_
  · rw [ev]
    rcases hk with ⟨a, b⟩ | ⟨a, b⟩
    · exact Or.inl ⟨a, Or.inr b⟩
    · exact Or.inr (Or.inl ⟨a, Or.inr b⟩)
  · rw [hp_up hr h0 hq hcs (cup_A hi)]
/-- a constructor is called on an object that was made just before -/
theorem rk_ini {k kd ci n : Nat} {y : vM} {q nn t s1 : Int} {cs1 : List cC} {cx : cC} {rest : List vv} {ds : List cC} (hr : h 3 0 0 = r) (h0 : 0 < r) (d : decode (vmB m) pc = .ok (.invokespecial k, 3)) (hv : vrs (vmC m) k = some (kd, ci, n, y)) (hk : ¬ kd = 6 ∧ (kd = 4 ∨ kd = 5)) (hq : r + (cs.length : Int) = q) (hd : S.drop n = (1, q) :: rest) {as : List vv} (ha : (1, q) :: (S.take n).reverse = as) (hc : vcat rest ≤ 8 ∧ vmF y + 1 ≤ vmF m ∧ 8 + (vmL y + 11) + vmW y ≤ vmW m ∧ (vents as).length ≤ vmL y) (sp : ∀ h2 : vH, h2 3 0 0 = q → 0 < q → vcl y as (hp h2 [cx] nn) = some (.inl none, hp h2 ds t)) (e1 : cs ++ [cx] = cs1) (e2 : s + nn = s1) (e3 : cs ++ ds = cs2) (e4 : s + t = s2) : vrun m pc L S (hp h cs1 s1) = vrun m (pc + 3) L rest (hp h cs2 s2) := by
  subst e1; subst e2; subst e3; subst e4
  subst hr
  refine (rn_special d hv hd (by omega) hk ha hc).trans ?_
  rw [← hp_hp h0, ← hp_hp h0]
  exact vret_n (sp (hp h cs s) (by rw [hp_3]; exact hq) (by omega))
/-- the constructor of the class above, on the same object -/
theorem rk_sup {k kd ci n : Nat} {y : vM} {q : Int} {h1 h2 : vH} {rest : List vv} (h0 : 0 < q) (d : decode (vmB m) pc = .ok (.invokespecial k, 3)) (hv : vrs (vmC m) k = some (kd, ci, n, y)) (hk : ¬ kd = 6 ∧ (kd = 4 ∨ kd = 5)) (hd : S.drop n = (1, q) :: rest) {as : List vv} (ha : (1, q) :: (S.take n).reverse = as) (hc : vcat rest ≤ 8 ∧ vmF y + 1 ≤ vmF m ∧ 8 + (vmL y + 11) + vmW y ≤ vmW m ∧ (vents as).length ≤ vmL y) (sp : vcl y as h1 = some (.inl none, h2)) : vrun m pc L S h1 = vrun m (pc + 3) L rest h2 :=
  (rn_special d hv hd (by omega) hk ha hc).trans (vret_n sp)
theorem vcl_as {m : vM} {as L : List vv} {h : vH} {z : Option (vR × vH)} (e : vent (vmL m) as = L) (x : vrun m 0 L [] h = z) : vcl m as h = z := by
  subst e
  exact x
end HQ

