theorem vgo_is {pc : Nat} {L S : List vv} {h : vH} {x} (a : vgo pc L S h = some x) : ∃ q, x = .inr (.inl q) := ⟨_, (Option.some.inj a).symm⟩
theorem vjmp_is {pc : Nat} {off : Int} {L S : List vv} {h : vH} {x} (a : vjmp pc off L S h = some x) : ∃ q, x = .inr (.inl q) := by
  unfold vjmp at a
  split at a
  · exact ⟨_, (Option.some.inj a).symm⟩
  · cases a
theorem vbr_is {c : Bool} {pc : Nat} {off : Int} {L S : List vv} {h : vH} {x} (a : vbr c pc off L S h = some x) : ∃ q, x = .inr (.inl q) := by
  unfold vbr at a
  split at a
  · split at a
    · exact vgo_is a
    · exact vgo_is a
  · cases a
def ccall (m y : vM) (as rest : List vv) : Prop := vcat rest ≤ 8 ∧ vmF y + 1 ≤ vmF m ∧ 8 + (vmL y + 11) + vmW y ≤ vmW m ∧ (vents as).length ≤ vmL y
theorem vcall_is {m y : vM} {pc : Nat} {as rest : List vv} {x} (a : vcall m y pc as rest = some x) : x = .inr (.inr (y, as, rest)) ∧ ccall m y as rest := by
  unfold vcall at a
  split at a
  · rename_i e; exact ⟨(Option.some.inj a).symm, e⟩
  · cases a
def kNext (x : (vR × vH) ⊕ ((Nat × List vv × List vv × vH) ⊕ (vM × List vv × List vv))) : Prop := ∃ q, x = .inr (.inl q)
def kInt (ig : Instr) (m : vM) (S : List vv) (h : vH) (x : (vR × vH) ⊕ ((Nat × List vv × List vv × vH) ⊕ (vM × List vv × List vv))) : Prop := ∃ z, ig = .ireturn ∧ S = [(0, z)] ∧ x = .inl (.inl (some (0, z)), h) ∧ (vmR m = some .int ∨ (vmR m = some .boolean ∧ (z = 0 ∨ z = 1)))
def kRef (ig : Instr) (m : vM) (S : List vv) (h : vH) (x : (vR × vH) ⊕ ((Nat × List vv × List vv × vH) ⊕ (vM × List vv × List vv))) : Prop := ∃ z, ig = .areturn ∧ S = [(1, z)] ∧ x = .inl (.inl (some (1, z)), h) ∧ vobj (vmR m) = true
def kVoid (ig : Instr) (m : vM) (S : List vv) (h : vH) (x : (vR × vH) ⊕ ((Nat × List vv × List vv × vH) ⊕ (vM × List vv × List vv))) : Prop := ig = .return_ ∧ S = [] ∧ x = .inl (.inl none, h) ∧ vmR m = none
def kThrow (ig : Instr) (m : vM) (pc : Nat) (S : List vv) (h : vH) (x : (vR × vH) ⊕ ((Nat × List vv × List vv × vH) ⊕ (vM × List vv × List vv))) : Prop := ∃ (k : Nat) (E : String) (q : Nat × Nat × Bool), ig = .new k ∧ vxt (vmC m) k = some E ∧ vthrows (vmB m) pc k = some q ∧ x = .inl (.inr E, vexc h) ∧ (vxok E q.2.1 q.1 = true ∧ vmC m = 13 ∧ vmH m = [] ∧ 6 ≤ vmF m ∧ vcat S + 82 ≤ vmW m)
def kVirt (ig : Instr) (m : vM) (S : List vv) (h : vH) (x : (vR × vH) ⊕ ((Nat × List vv × List vv × vH) ⊕ (vM × List vv × List vv))) : Prop := ∃ (k : Nat) (y : Nat × Nat × Nat × vM) (b : Int) (rest : List vv), ig = .invokevirtual k ∧ vrs (vmC m) k = some y ∧ S.drop y.2.2.1 = (1, b) :: rest ∧ (y.1 < 2 ∧ h 0 b 0 = 20 + (y.2.1 : Int)) ∧ x = .inr (.inr (y.2.2.2, (1, b) :: (S.take y.2.2.1).reverse, rest)) ∧ ccall m y.2.2.2 ((1, b) :: (S.take y.2.2.1).reverse) rest
def kSpec (ig : Instr) (m : vM) (S : List vv) (x : (vR × vH) ⊕ ((Nat × List vv × List vv × vH) ⊕ (vM × List vv × List vv))) : Prop := ∃ (k : Nat) (y : Nat × Nat × Nat × vM) (b : Int) (rest : List vv), ig = .invokespecial k ∧ vrs (vmC m) k = some y ∧ S.drop y.2.2.1 = (1, b) :: rest ∧ ¬ b = 0 ∧ (y.1 = 4 ∨ y.1 = 5) ∧ x = .inr (.inr (y.2.2.2, (1, b) :: (S.take y.2.2.1).reverse, rest)) ∧ ccall m y.2.2.2 ((1, b) :: (S.take y.2.2.1).reverse) rest
def kStat (ig : Instr) (m : vM) (S : List vv) (x : (vR × vH) ⊕ ((Nat × List vv × List vv × vH) ⊕ (vM × List vv × List vv))) : Prop := ∃ (k : Nat) (y : Nat × Nat × Nat × vM), ig = .invokestatic k ∧ vrs (vmC m) k = some y ∧ y.2.2.1 ≤ S.length ∧ (y.1 = 2 ∨ y.1 = 3 ∨ y.1 = 10) ∧ x = .inr (.inr (y.2.2.2, (S.take y.2.2.1).reverse, S.drop y.2.2.1)) ∧ ccall m y.2.2.2 (S.take y.2.2.1).reverse (S.drop y.2.2.1)
set_option maxHeartbeats 4000000 in
theorem act_cls {ig : Instr} {m : vM} {pc : Nat} {L S : List vv} {h : vH} {x} (a : vact1 ig m pc L S h = some x) : kNext x ∨ kInt ig m S h x ∨ kRef ig m S h x ∨ kVoid ig m S h x ∨ kThrow ig m pc S h x ∨ kVirt ig m S h x ∨ kSpec ig m S x ∨ kStat ig m S x := by
  cases ig with
  | aload_n k =>
    dsimp only [vact1] at a
    repeat' split at a
    all_goals first | exact Or.inl (vgo_is a) | exact Or.inl (vjmp_is a) | exact Or.inl (vbr_is a) | cases a
  | aload k =>
    dsimp only [vact1] at a
    repeat' split at a
    all_goals first | exact Or.inl (vgo_is a) | exact Or.inl (vjmp_is a) | exact Or.inl (vbr_is a) | cases a
  | iload_n k =>
    dsimp only [vact1] at a
    repeat' split at a
    all_goals first | exact Or.inl (vgo_is a) | exact Or.inl (vjmp_is a) | exact Or.inl (vbr_is a) | cases a
  | iload k =>
    dsimp only [vact1] at a
    repeat' split at a
    all_goals first | exact Or.inl (vgo_is a) | exact Or.inl (vjmp_is a) | exact Or.inl (vbr_is a) | cases a
  | lload_n k =>
    dsimp only [vact1] at a
    repeat' split at a
    all_goals first | exact Or.inl (vgo_is a) | exact Or.inl (vjmp_is a) | exact Or.inl (vbr_is a) | cases a
  | lload k =>
    dsimp only [vact1] at a
    repeat' split at a
    all_goals first | exact Or.inl (vgo_is a) | exact Or.inl (vjmp_is a) | exact Or.inl (vbr_is a) | cases a
  | istore_n k =>
    dsimp only [vact1] at a
    repeat' split at a
    all_goals first | exact Or.inl (vgo_is a) | exact Or.inl (vjmp_is a) | exact Or.inl (vbr_is a) | cases a
  | istore k =>
    dsimp only [vact1] at a
    repeat' split at a
    all_goals first | exact Or.inl (vgo_is a) | exact Or.inl (vjmp_is a) | exact Or.inl (vbr_is a) | cases a
  | astore_n k =>
    dsimp only [vact1] at a
    repeat' split at a
    all_goals first | exact Or.inl (vgo_is a) | exact Or.inl (vjmp_is a) | exact Or.inl (vbr_is a) | cases a
  | astore k =>
    dsimp only [vact1] at a
    repeat' split at a
    all_goals first | exact Or.inl (vgo_is a) | exact Or.inl (vjmp_is a) | exact Or.inl (vbr_is a) | cases a
  | lstore_n k =>
    dsimp only [vact1] at a
    repeat' split at a
    all_goals first | exact Or.inl (vgo_is a) | exact Or.inl (vjmp_is a) | exact Or.inl (vbr_is a) | cases a
  | lstore k =>
    dsimp only [vact1] at a
    repeat' split at a
    all_goals first | exact Or.inl (vgo_is a) | exact Or.inl (vjmp_is a) | exact Or.inl (vbr_is a) | cases a
  | iconst k =>
    dsimp only [vact1] at a
    repeat' split at a
    all_goals first | exact Or.inl (vgo_is a) | exact Or.inl (vjmp_is a) | exact Or.inl (vbr_is a) | cases a
  | bipush k =>
    dsimp only [vact1] at a
    repeat' split at a
    all_goals first | exact Or.inl (vgo_is a) | exact Or.inl (vjmp_is a) | exact Or.inl (vbr_is a) | cases a
  | sipush k =>
    dsimp only [vact1] at a
    repeat' split at a
    all_goals first | exact Or.inl (vgo_is a) | exact Or.inl (vjmp_is a) | exact Or.inl (vbr_is a) | cases a
  | lconst k =>
    dsimp only [vact1] at a
    repeat' split at a
    all_goals first | exact Or.inl (vgo_is a) | exact Or.inl (vjmp_is a) | exact Or.inl (vbr_is a) | cases a
  | ldc k =>
    dsimp only [vact1] at a
    repeat' split at a
    all_goals first | exact Or.inl (vgo_is a) | exact Or.inl (vjmp_is a) | exact Or.inl (vbr_is a) | cases a
  | ldc2_w k =>
    dsimp only [vact1] at a
    repeat' split at a
    all_goals first | exact Or.inl (vgo_is a) | exact Or.inl (vjmp_is a) | exact Or.inl (vbr_is a) | cases a
  | goto k =>
    dsimp only [vact1] at a
    repeat' split at a
    all_goals first | exact Or.inl (vgo_is a) | exact Or.inl (vjmp_is a) | exact Or.inl (vbr_is a) | cases a
  | getfield k =>
    dsimp only [vact1] at a
    repeat' split at a
    all_goals first | exact Or.inl (vgo_is a) | exact Or.inl (vjmp_is a) | exact Or.inl (vbr_is a) | cases a
  | putfield k =>
    dsimp only [vact1] at a
    repeat' split at a
    all_goals first | exact Or.inl (vgo_is a) | exact Or.inl (vjmp_is a) | exact Or.inl (vbr_is a) | cases a
  | getstatic k =>
    dsimp only [vact1] at a
    repeat' split at a
    all_goals first | exact Or.inl (vgo_is a) | exact Or.inl (vjmp_is a) | exact Or.inl (vbr_is a) | cases a
  | anewarray k =>
    dsimp only [vact1] at a
    repeat' split at a
    all_goals first | exact Or.inl (vgo_is a) | exact Or.inl (vjmp_is a) | exact Or.inl (vbr_is a) | cases a
  | checkcast k =>
    dsimp only [vact1] at a
    repeat' split at a
    all_goals first | exact Or.inl (vgo_is a) | exact Or.inl (vjmp_is a) | exact Or.inl (vbr_is a) | cases a
  | aconst_null  =>
    dsimp only [vact1] at a
    repeat' split at a
    all_goals first | exact Or.inl (vgo_is a) | exact Or.inl (vjmp_is a) | exact Or.inl (vbr_is a) | cases a
  | iadd  =>
    dsimp only [vact1] at a
    repeat' split at a
    all_goals first | exact Or.inl (vgo_is a) | exact Or.inl (vjmp_is a) | exact Or.inl (vbr_is a) | cases a
  | isub  =>
    dsimp only [vact1] at a
    repeat' split at a
    all_goals first | exact Or.inl (vgo_is a) | exact Or.inl (vjmp_is a) | exact Or.inl (vbr_is a) | cases a
  | imul  =>
    dsimp only [vact1] at a
    repeat' split at a
    all_goals first | exact Or.inl (vgo_is a) | exact Or.inl (vjmp_is a) | exact Or.inl (vbr_is a) | cases a
  | idiv  =>
    dsimp only [vact1] at a
    repeat' split at a
    all_goals first | exact Or.inl (vgo_is a) | exact Or.inl (vjmp_is a) | exact Or.inl (vbr_is a) | cases a
  | irem  =>
    dsimp only [vact1] at a
    repeat' split at a
    all_goals first | exact Or.inl (vgo_is a) | exact Or.inl (vjmp_is a) | exact Or.inl (vbr_is a) | cases a
  | ineg  =>
    dsimp only [vact1] at a
    repeat' split at a
    all_goals first | exact Or.inl (vgo_is a) | exact Or.inl (vjmp_is a) | exact Or.inl (vbr_is a) | cases a
  | iand  =>
    dsimp only [vact1] at a
    repeat' split at a
    all_goals first | exact Or.inl (vgo_is a) | exact Or.inl (vjmp_is a) | exact Or.inl (vbr_is a) | cases a
  | ior  =>
    dsimp only [vact1] at a
    repeat' split at a
    all_goals first | exact Or.inl (vgo_is a) | exact Or.inl (vjmp_is a) | exact Or.inl (vbr_is a) | cases a
  | ishl  =>
    dsimp only [vact1] at a
    repeat' split at a
    all_goals first | exact Or.inl (vgo_is a) | exact Or.inl (vjmp_is a) | exact Or.inl (vbr_is a) | cases a
  | ishr  =>
    dsimp only [vact1] at a
    repeat' split at a
    all_goals first | exact Or.inl (vgo_is a) | exact Or.inl (vjmp_is a) | exact Or.inl (vbr_is a) | cases a
  | i2l  =>
    dsimp only [vact1] at a
    repeat' split at a
    all_goals first | exact Or.inl (vgo_is a) | exact Or.inl (vjmp_is a) | exact Or.inl (vbr_is a) | cases a
  | l2i  =>
    dsimp only [vact1] at a
    repeat' split at a
    all_goals first | exact Or.inl (vgo_is a) | exact Or.inl (vjmp_is a) | exact Or.inl (vbr_is a) | cases a
  | land  =>
    dsimp only [vact1] at a
    repeat' split at a
    all_goals first | exact Or.inl (vgo_is a) | exact Or.inl (vjmp_is a) | exact Or.inl (vbr_is a) | cases a
  | lor  =>
    dsimp only [vact1] at a
    repeat' split at a
    all_goals first | exact Or.inl (vgo_is a) | exact Or.inl (vjmp_is a) | exact Or.inl (vbr_is a) | cases a
  | lshr  =>
    dsimp only [vact1] at a
    repeat' split at a
    all_goals first | exact Or.inl (vgo_is a) | exact Or.inl (vjmp_is a) | exact Or.inl (vbr_is a) | cases a
  | lshl  =>
    dsimp only [vact1] at a
    repeat' split at a
    all_goals first | exact Or.inl (vgo_is a) | exact Or.inl (vjmp_is a) | exact Or.inl (vbr_is a) | cases a
  | lushr  =>
    dsimp only [vact1] at a
    repeat' split at a
    all_goals first | exact Or.inl (vgo_is a) | exact Or.inl (vjmp_is a) | exact Or.inl (vbr_is a) | cases a
  | lcmp  =>
    dsimp only [vact1] at a
    repeat' split at a
    all_goals first | exact Or.inl (vgo_is a) | exact Or.inl (vjmp_is a) | exact Or.inl (vbr_is a) | cases a
  | dup  =>
    dsimp only [vact1] at a
    repeat' split at a
    all_goals first | exact Or.inl (vgo_is a) | exact Or.inl (vjmp_is a) | exact Or.inl (vbr_is a) | cases a
  | dup_x1  =>
    dsimp only [vact1] at a
    repeat' split at a
    all_goals first | exact Or.inl (vgo_is a) | exact Or.inl (vjmp_is a) | exact Or.inl (vbr_is a) | cases a
  | dup2  =>
    dsimp only [vact1] at a
    repeat' split at a
    all_goals first | exact Or.inl (vgo_is a) | exact Or.inl (vjmp_is a) | exact Or.inl (vbr_is a) | cases a
  | pop  =>
    dsimp only [vact1] at a
    repeat' split at a
    all_goals first | exact Or.inl (vgo_is a) | exact Or.inl (vjmp_is a) | exact Or.inl (vbr_is a) | cases a
  | arraylength  =>
    dsimp only [vact1] at a
    repeat' split at a
    all_goals first | exact Or.inl (vgo_is a) | exact Or.inl (vjmp_is a) | exact Or.inl (vbr_is a) | cases a
  | iaload  =>
    dsimp only [vact1] at a
    repeat' split at a
    all_goals first | exact Or.inl (vgo_is a) | exact Or.inl (vjmp_is a) | exact Or.inl (vbr_is a) | cases a
  | baload  =>
    dsimp only [vact1] at a
    repeat' split at a
    all_goals first | exact Or.inl (vgo_is a) | exact Or.inl (vjmp_is a) | exact Or.inl (vbr_is a) | cases a
  | aaload  =>
    dsimp only [vact1] at a
    repeat' split at a
    all_goals first | exact Or.inl (vgo_is a) | exact Or.inl (vjmp_is a) | exact Or.inl (vbr_is a) | cases a
  | iastore  =>
    dsimp only [vact1] at a
    repeat' split at a
    all_goals first | exact Or.inl (vgo_is a) | exact Or.inl (vjmp_is a) | exact Or.inl (vbr_is a) | cases a
  | bastore  =>
    dsimp only [vact1] at a
    repeat' split at a
    all_goals first | exact Or.inl (vgo_is a) | exact Or.inl (vjmp_is a) | exact Or.inl (vbr_is a) | cases a
  | aastore  =>
    dsimp only [vact1] at a
    repeat' split at a
    all_goals first | exact Or.inl (vgo_is a) | exact Or.inl (vjmp_is a) | exact Or.inl (vbr_is a) | cases a
  | iinc k n =>
    dsimp only [vact1] at a
    repeat' split at a
    all_goals first | exact Or.inl (vgo_is a) | exact Or.inl (vjmp_is a) | exact Or.inl (vbr_is a) | cases a
  | tableswitch a1 a2 a3 a4 =>
    dsimp only [vact1] at a
    repeat' split at a
    all_goals first | exact Or.inl (vgo_is a) | exact Or.inl (vjmp_is a) | exact Or.inl (vbr_is a) | cases a
  | ifCond cnd off =>
    cases cnd <;>
      (dsimp only [vact1] at a
       repeat' split at a
       all_goals first | exact Or.inl (vbr_is a) | cases a)
  | if_icmp cnd off =>
    cases cnd <;>
      (dsimp only [vact1] at a
       repeat' split at a
       all_goals first | exact Or.inl (vbr_is a) | cases a)
  | if_acmp cnd off =>
    cases cnd <;>
      (dsimp only [vact1] at a
       repeat' split at a
       all_goals first | exact Or.inl (vbr_is a) | cases a)
  | newarray t =>
    cases t <;>
      first
      | exact nomatch (show (none : vA) = some x from a)
      | (dsimp only [vact1] at a
         repeat' split at a
         all_goals first | exact Or.inl (vgo_is a) | cases a)
  | ireturn  =>
    dsimp only [vact1] at a
    split at a
    · split at a
      · rename_i e
        exact Or.inr (Or.inl ⟨_, rfl, rfl, (Option.some.inj a).symm, e⟩)
      · cases a
    · cases a
  | areturn  =>
    dsimp only [vact1] at a
    split at a
    · split at a
      · rename_i e
        exact Or.inr (Or.inr (Or.inl ⟨_, rfl, rfl, (Option.some.inj a).symm, e⟩))
      · cases a
    · cases a
  | return_  =>
    dsimp only [vact1] at a
    split at a
    · split at a
      · rename_i e
        exact Or.inr (Or.inr (Or.inr (Or.inl ⟨rfl, rfl, (Option.some.inj a).symm, e⟩)))
      · cases a
    · cases a
  | new k =>
    dsimp only [vact1] at a
    split at a
    · rename_i E hE
      split at a
      · rename_i q hq
        split at a
        · rename_i e
          exact Or.inr (Or.inr (Or.inr (Or.inr (Or.inl ⟨k, E, q, rfl, hE, hq, (Option.some.inj a).symm, e⟩))))
        · cases a
      · cases a
    · split at a
      · exact Or.inl (vgo_is a)
      · cases a
  | invokevirtual k =>
    dsimp only [vact1] at a
    split at a
    · rename_i y hy
      split at a
      · rename_i b rest hd
        split at a
        · rename_i e
          obtain ⟨e1, e2⟩ := vcall_is a
          exact Or.inr (Or.inr (Or.inr (Or.inr (Or.inr (Or.inl ⟨k, y, b, rest, rfl, hy, hd, e, e1, e2⟩)))))
        · cases a
      · cases a
    · cases a
  | invokespecial k =>
    dsimp only [vact1] at a
    split at a
    · rename_i y hy
      split at a
      · rename_i b rest hd
        split at a
        · cases a
        · rename_i hb0
          split at a
          · split at a
            · exact Or.inl (vgo_is a)
            · cases a
          · split at a
            · rename_i e
              obtain ⟨e1, e2⟩ := vcall_is a
              exact Or.inr (Or.inr (Or.inr (Or.inr (Or.inr (Or.inr (Or.inl ⟨k, y, b, rest, rfl, hy, hd, hb0, e, e1, e2⟩))))))
            · cases a
      · cases a
    · cases a
  | invokestatic k =>
    dsimp only [vact1] at a
    split at a
    · rename_i y hy
      split at a
      · split at a
        · split at a
          · exact Or.inl (vgo_is a)
          · cases a
        · cases a
      · split at a
        · split at a
          · split at a
            · exact Or.inl (vgo_is a)
            · cases a
          · cases a
        · split at a
          · split at a
            · split at a
              · exact Or.inl (vgo_is a)
              · cases a
            · cases a
          · split at a
            · rename_i e
              obtain ⟨e1, e2⟩ := vcall_is a
              exact Or.inr (Or.inr (Or.inr (Or.inr (Or.inr (Or.inr (Or.inr ⟨k, y, rfl, hy, e.1, e.2, e1, e2⟩))))))
            · cases a
    · cases a
  | _ => exact nomatch (show (none : vA) = some x from a)
theorem vact_dec {m : vM} {pc : Nat} {L S : List vv} {h : vH} {x} (a : vact m pc L S h = some x) : ∃ (ig : Instr) (n : Nat), decode (vmB m) pc = .ok (ig, n) ∧ n = vilen ig n ∧ vact1 ig m pc L S h = some x := by
  unfold vact at a
  split at a
  · cases a
  · rename_i q hq
    split at a
    · rename_i e; exact ⟨q.1, q.2, hq, e, a⟩
    · cases a
theorem vents_mem {as : List vv} {v : vv} (hv : v ∈ vents as) : v ∈ as ∨ v = (8, 0) := by
  induction as with
  | nil => cases hv
  | cons a l ih =>
    obtain ⟨k, z⟩ := a
    by_cases hk : k = 2
    · subst hk
      have hv : v ∈ (2, z) :: (8, 0) :: vents l := hv
      rcases List.mem_cons.mp hv with e | hv
      · exact Or.inl (e ▸ List.mem_cons_self)
      · rcases List.mem_cons.mp hv with e | hv
        · exact Or.inr e
        · exact (ih hv).imp (List.mem_cons_of_mem _) id
    · have hv : v ∈ (k, z) :: vents l := by
        unfold vents at hv
        split at hv
        · rename_i e; cases e
        · rename_i e; cases e; exact absurd rfl hk
        · rename_i e; cases e; exact hv
      rcases List.mem_cons.mp hv with e | hv
      · exact Or.inl (e ▸ List.mem_cons_self)
      · exact (ih hv).imp (List.mem_cons_of_mem _) id
def okr (n : Int) : vR → Prop
  | .inl (some v) => vok n v
  | _ => True
theorem ok_ent {L0 : Nat} {xs : Nat → Int32} {h : vH} {as : List vv} {k : Nat} (o : hok L0 xs h) (ha : ∀ v ∈ as, vok (h 3 0 0) v) : okS L0 xs h (vent k as) [] := by
  refine ⟨o, fun v hv => ?_, fun v hv => by cases hv⟩
  unfold vent at hv
  rcases List.mem_append.mp hv with q | q
  · rcases vents_mem q with e | e
    · exact ha v e
    · rw [e]; trivial
  · rw [(List.mem_replicate.mp q).2]; trivial
/-- a finished run keeps the heap well-formed, its answer is one, and nothing is unmade -/
theorem ev_ok {L0 : Nat} (hL0 : L0 ≤ 100000) {xs : Nat → Int32} : ∀ (n : Nat) {m : vM} {pc : Nat} {L S : List vv} {h h' : vH} {r : vR}, vev n m pc L S h = some (r, h') → okS L0 xs h L S → hok L0 xs h' ∧ hle h h' ∧ okr (h' 3 0 0) r := by
  intro n
  induction n with
  | zero => intro m pc L S h h' r e o; cases e
  | succ n ih =>
    intro m pc L S h h' r e o
    have e : vstep (vev n) m pc L S h = some (r, h') := e
    unfold vstep at e
    split at e
    · cases e
    · rename_i r2 ha
      obtain ⟨ig, k, hd, hk, ha⟩ := vact_dec ha
      have e2 : r2 = (r, h') := Option.some.inj e
      subst e2
      rcases act_cls ha with ⟨q, z⟩ | ⟨z, -, hS, z2, -⟩ | ⟨z, -, hS, z2, -⟩ | ⟨-, hS, z2, -⟩ | ⟨k2, E, q, -, -, -, z2, -⟩ | ⟨k2, y, b, rest, -, -, -, -, z2, -⟩ | ⟨k2, y, b, rest, -, -, -, -, -, z2, -⟩ | ⟨k2, y, -, -, -, -, z2, -⟩
      · cases z
      · cases z2; subst hS; exact ⟨o.1, hle_refl, ok_head o⟩
      · cases z2; subst hS; exact ⟨o.1, hle_refl, ok_head o⟩
      · cases z2; exact ⟨o.1, hle_refl, trivial⟩
      · cases z2; exact ⟨hok_exc o.1, vexc_hle, trivial⟩
      · cases z2
      · cases z2
      · cases z2
    · rename_i q ha
      obtain ⟨ig, k, hd, hk, ha⟩ := vact_dec ha
      obtain ⟨o2, l2, -⟩ := act_ok hL0 o ha
      obtain ⟨a1, a2, a3⟩ := ih e o2
      exact ⟨a1, hle_trans l2 a2, a3⟩
    · rename_i q ha
      obtain ⟨ig, k, hd, hk, ha⟩ := vact_dec ha
      have hsub : (∀ v ∈ q.2.1, v ∈ S) ∧ ∀ v ∈ q.2.2, v ∈ S := by
        rcases act_cls ha with ⟨q2, z⟩ | ⟨z, -, hS, z2, -⟩ | ⟨z, -, hS, z2, -⟩ | ⟨-, hS, z2, -⟩ | ⟨k2, E, q2, -, -, -, z2, -⟩ | ⟨k2, y, b, rest, -, -, hdr, -, z2, -⟩ | ⟨k2, y, b, rest, -, -, hdr, -, -, z2, -⟩ | ⟨k2, y, -, -, -, -, z2, -⟩
        · cases z
        · cases z2
        · cases z2
        · cases z2
        · cases z2
        · cases z2
          have hd : ∀ v ∈ (1, b) :: rest, v ∈ S := fun v hv => List.mem_of_mem_drop (by rw [hdr]; exact hv)
          refine ⟨fun v hv => ?_, fun v hv => hd v (List.mem_cons_of_mem _ hv)⟩
          rcases List.mem_cons.mp hv with e9 | hv
          · rw [e9]; exact hd _ List.mem_cons_self
          · exact List.mem_of_mem_take (List.mem_reverse.mp hv)
        · cases z2
          have hd : ∀ v ∈ (1, b) :: rest, v ∈ S := fun v hv => List.mem_of_mem_drop (by rw [hdr]; exact hv)
          refine ⟨fun v hv => ?_, fun v hv => hd v (List.mem_cons_of_mem _ hv)⟩
          rcases List.mem_cons.mp hv with e9 | hv
          · rw [e9]; exact hd _ List.mem_cons_self
          · exact List.mem_of_mem_take (List.mem_reverse.mp hv)
        · cases z2
          exact ⟨fun v hv => List.mem_of_mem_take (List.mem_reverse.mp hv), fun v hv => List.mem_of_mem_drop hv⟩
      cases hc : vev n q.1 0 (vent (vmL q.1) q.2.1) [] h with
      | none => rw [hc] at e; cases e
      | some z =>
        rw [hc] at e
        obtain ⟨r2, h2⟩ := z
        obtain ⟨b1, b2, b3⟩ := ih hc (ok_ent o.1 fun v hv => o.2.2 v (hsub.1 v hv))
        have o2 : okS L0 xs h2 L q.2.2 := ⟨b1, fun v hv => vok_mono b2.1 (o.2.1 v hv), fun v hv => vok_mono b2.1 (o.2.2 v (hsub.2 v hv))⟩
        unfold vret at e
        split at e
        · rename_i z; cases z
        · rename_i v h3 z
          cases z
          have o3 : okS L0 xs h2 L (v.toList ++ q.2.2) := by
            cases v with
            | none => exact o2
            | some v => exact ok_push o2 b3
          obtain ⟨a1, a2, a3⟩ := ih e o3
          exact ⟨a1, hle_trans b2 a2, a3⟩
        · rename_i E h3 z
          cases z
          split at e
          · cases e; exact ⟨b1, b2, trivial⟩
          · split at e
            · split at e
              · split at e
                · obtain ⟨a1, a2, a3⟩ := ih e (ok_set ⟨b1, o2.2.1, fun v hv => by cases hv⟩ trivial)
                  exact ⟨a1, hle_trans b2 a2, a3⟩
                · cases e
              · split at e
                · obtain ⟨a1, a2, a3⟩ := ih e (ok_set ⟨b1, o2.2.1, fun v hv => by cases hv⟩ trivial)
                  exact ⟨a1, hle_trans b2 a2, a3⟩
                · cases e
              · cases e
            · cases e
