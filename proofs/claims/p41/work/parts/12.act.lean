/-- the throw of a new exception with a text: new, dup, ldc (or ldc_w), the constructor, athrow; whether the instructions at pc are these -/
def vthrows (cc : ByteArray) (pc ik : Nat) : Option (Nat × Nat × Bool) :=
  match decode cc pc, decode cc (pc + 3), decode cc (pc + 4) with
  | .ok (.new k, 3), .ok (.dup, 1), .ok (.ldc is, 2) =>
    (match decode cc (pc + 6), decode cc (pc + 9) with
     | .ok (.invokespecial ic, 3), .ok (.athrow, 1) => if k = ik then some (is, ic, false) else none
     | _, _ => none)
  | .ok (.new k, 3), .ok (.dup, 1), .ok (.ldc_w is, 3) =>
    (match decode cc (pc + 7), decode cc (pc + 10) with
     | .ok (.invokespecial ic, 3), .ok (.athrow, 1) => if k = ik then some (is, ic, true) else none
     | _, _ => none)
  | _, _, _ => none
/-- the sites of throws: the class, the constructor's entry, the text's entry -/
def vxok (E : String) (ic is : Nat) : Bool :=
  (E == "java/lang/IndexOutOfBoundsException" && ic == 137 && [338, 336, 340].contains is) ||
  (E == "java/lang/IllegalArgumentException" && ic == 157 && [342, 344, 155, 169, 178].contains is) ||
  (E == "java/lang/IllegalStateException" && ic == 350 && [348].contains is)
def vlen (h : vH) (r : Int) : Bool := h 0 r 0 == 1 || h 0 r 0 == 2 || h 0 r 0 == 3 || h 0 r 0 == 4 || h 0 r 0 == 5 || h 0 r 0 == 6 || h 0 r 0 == 10 || h 0 r 0 == 11
def vin (h : vH) (r i : Int) : Bool := decide (0 ≤ i) && decide (i < h 1 r 0)
def vcall (m y : vM) (pc : Nat) (as rest : List vv) : vA :=
  if vcat rest ≤ 8 ∧ vmF y + 1 ≤ vmF m ∧ 8 + (vmL y + 11) + vmW y ≤ vmW m ∧ (vents as).length ≤ vmL y then some (.inr (.inr (y, as, rest))) else none
/-- the elements that System.arraycopy moves from an array of references fit the array that takes them -/
def vcpok (h : vH) (a sp b n : Int) : Prop :=
  (h 0 a 0 = 1 ∧ h 0 b 0 = 1) ∨
  (h 0 a 0 = 4 ∧ h 0 b 0 = 4 ∧ ∀ i : Int, 0 ≤ i → i < n → h 2 a (sp + i) = 0 ∨ h 0 (h 2 a (sp + i)) 0 = 25) ∨
  (h 0 a 0 = 6 ∧ h 0 b 0 = 6 ∧ ∃ c : Nat, c < 14 ∧ ∀ i : Int, 0 ≤ i → i < n → h 2 a (sp + i) = 0 ∨ h 0 (h 2 a (sp + i)) 0 = 20 + c)
def vobj (r : Option FieldType) : Bool := match r with
  | some (.object _) => true
  | some (.array _) => true
  | _ => false
def vilen (ig : Instr) (n : Nat) : Nat := match ig with
  | .aload _ => 2
  | .iload _ => 2
  | .lload _ => 2
  | .istore _ => 2
  | .astore _ => 2
  | .lstore _ => 2
  | .iinc _ _ => 3
  | .bipush _ => 2
  | .sipush _ => 3
  | .ldc2_w _ => 3
  | .ldc _ => 2
  | .goto _ => 3
  | .ifCond _ _ => 3
  | .if_icmp _ _ => 3
  | .if_acmp _ _ => 3
  | .tableswitch _ _ _ _ => n
  | .getfield _ => 3
  | .putfield _ => 3
  | .getstatic _ => 3
  | .new _ => 3
  | .newarray _ => 2
  | .anewarray _ => 3
  | .checkcast _ => 3
  | .invokevirtual _ => 3
  | .invokespecial _ => 3
  | .invokestatic _ => 3
  | _ => 1
noncomputable def vact1 (ig : Instr) (m : vM) (pc : Nat) (L S : List vv) (h : vH) : vA :=
  match ig with
  | .aload_n k => (match L[k.val]? with | some (1, x) => vgo (pc + 1) L ((1, x) :: S) h | _ => none)
  | .aload k => (match L[k]? with | some (1, x) => vgo (pc + 2) L ((1, x) :: S) h | _ => none)
  | .iload_n k => (match L[k.val]? with | some (0, x) => vgo (pc + 1) L ((0, x) :: S) h | _ => none)
  | .iload k => (match L[k]? with | some (0, x) => vgo (pc + 2) L ((0, x) :: S) h | _ => none)
  | .lload_n k => (match L[k.val]? with | some (2, x) => vgo (pc + 1) L ((2, x) :: S) h | _ => none)
  | .lload k => (match L[k]? with | some (2, x) => vgo (pc + 2) L ((2, x) :: S) h | _ => none)
  | .istore_n k => (match S with | (0, x) :: S => if k.val < L.length then vgo (pc + 1) (vset L k.val (0, x)) S h else none | _ => none)
  | .istore k => (match S with | (0, x) :: S => if k < L.length then vgo (pc + 2) (vset L k (0, x)) S h else none | _ => none)
  | .astore_n k => (match S with | (1, x) :: S => if k.val < L.length then vgo (pc + 1) (vset L k.val (1, x)) S h else none | _ => none)
  | .astore k => (match S with | (1, x) :: S => if k < L.length then vgo (pc + 2) (vset L k (1, x)) S h else none | _ => none)
  | .lstore_n k => (match S with | (2, x) :: S => if k.val + 1 < L.length then vgo (pc + 1) (vset2 L k.val (2, x)) S h else none | _ => none)
  | .lstore k => (match S with | (2, x) :: S => if k + 1 < L.length then vgo (pc + 2) (vset2 L k (2, x)) S h else none | _ => none)
  | .iinc k n => (match L[k]? with | some (0, x) => if k < L.length then vgo (pc + 3) (vset L k (0, w32 (x + n))) S h else none | _ => none)
  | .iconst n => if -2147483648 ≤ n ∧ n < 2147483648 then vgo (pc + 1) L ((0, n) :: S) h else none
  | .bipush n => if -128 ≤ n ∧ n < 128 then vgo (pc + 2) L ((0, n) :: S) h else none
  | .sipush n => if -32768 ≤ n ∧ n < 32768 then vgo (pc + 3) L ((0, n) :: S) h else none
  | .lconst n => vgo (pc + 1) L ((2, ((n : Nat) : Int)) :: S) h
  | .ldc k => (match vic (vmC m) k with | some z => vgo (pc + 2) L ((0, z) :: S) h | _ => none)
  | .ldc2_w k => (match vlc (vmC m) k with | some z => vgo (pc + 3) L ((2, z) :: S) h | _ => none)
  | .aconst_null => vgo (pc + 1) L ((1, 0) :: S) h
  | .iadd => (match S with | (0, b) :: (0, a) :: S => vgo (pc + 1) L ((0, w32 (a + b)) :: S) h | _ => none)
  | .isub => (match S with | (0, b) :: (0, a) :: S => vgo (pc + 1) L ((0, w32 (a - b)) :: S) h | _ => none)
  | .imul => (match S with | (0, b) :: (0, a) :: S => vgo (pc + 1) L ((0, w32 (a * b)) :: S) h | _ => none)
  | .idiv => (match S with | (0, b) :: (0, a) :: S => if b = 0 then none else vgo (pc + 1) L ((0, w32 (a.tdiv b)) :: S) h | _ => none)
  | .irem => (match S with | (0, b) :: (0, a) :: S => if b = 0 then none else vgo (pc + 1) L ((0, a.tmod b) :: S) h | _ => none)
  | .ineg => (match S with | (0, a) :: S => vgo (pc + 1) L ((0, w32 (-a)) :: S) h | _ => none)
  | .iand => (match S with | (0, b) :: (0, a) :: S => vgo (pc + 1) L (vI (vi32 a &&& vi32 b) :: S) h | _ => none)
  | .ior => (match S with | (0, b) :: (0, a) :: S => vgo (pc + 1) L (vI (vi32 a ||| vi32 b) :: S) h | _ => none)
  | .ishr => (match S with | (0, b) :: (0, a) :: S => vgo (pc + 1) L (vI (vi32 a >>> (vi32 b &&& 31)) :: S) h | _ => none)
  | .ishl => (match S with | (0, b) :: (0, a) :: S => vgo (pc + 1) L (vI (vi32 a <<< (vi32 b &&& 31)) :: S) h | _ => none)
  | .i2l => (match S with | (0, a) :: S => vgo (pc + 1) L ((2, a) :: S) h | _ => none)
  | .l2i => (match S with | (2, a) :: S => vgo (pc + 1) L ((0, w32 a) :: S) h | _ => none)
  | .land => (match S with | (2, b) :: (2, a) :: S => vgo (pc + 1) L (vL (vi64 a &&& vi64 b) :: S) h | _ => none)
  | .lor => (match S with | (2, b) :: (2, a) :: S => vgo (pc + 1) L (vL (vi64 a ||| vi64 b) :: S) h | _ => none)
  | .lshr => (match S with | (0, b) :: (2, a) :: S => vgo (pc + 1) L (vL (vi64 a >>> ((vi32 b).toInt64 &&& 63)) :: S) h | _ => none)
  | .lshl => (match S with | (0, b) :: (2, a) :: S => vgo (pc + 1) L (vL (vi64 a <<< ((vi32 b).toInt64 &&& 63)) :: S) h | _ => none)
  | .lushr => (match S with | (0, b) :: (2, a) :: S => vgo (pc + 1) L (vL ((vi64 a).toUInt64 >>> ((vi32 b).toInt64.toUInt64 &&& Int64.toUInt64 63)).toInt64 :: S) h | _ => none)
  | .lcmp => (match S with | (2, b) :: (2, a) :: S => vgo (pc + 1) L ((0, if b < a then 1 else if a = b then 0 else -1) :: S) h | _ => none)
  | .dup => (match S with | (k, x) :: S => if k < 2 then vgo (pc + 1) L ((k, x) :: (k, x) :: S) h else none | _ => none)
  | .dup_x1 => (match S with | (k, x) :: (j, y) :: S => if k < 2 ∧ j < 2 then vgo (pc + 1) L ((k, x) :: (j, y) :: (k, x) :: S) h else none | _ => none)
  | .dup2 => (match S with | (k, x) :: (j, y) :: S => if k < 2 ∧ j < 2 then vgo (pc + 1) L ((k, x) :: (j, y) :: (k, x) :: (j, y) :: S) h else none | _ => none)
  | .pop => (match S with | (k, _) :: S => if k < 2 then vgo (pc + 1) L S h else none | _ => none)
  | .goto off => vjmp pc off L S h
  | .ifCond .eq off => (match S with | (0, a) :: S => vbr (decide (a = 0)) pc off L S h | _ => none)
  | .ifCond .ne off => (match S with | (0, a) :: S => vbr (decide (a ≠ 0)) pc off L S h | _ => none)
  | .ifCond .lt off => (match S with | (0, a) :: S => vbr (decide (a < 0)) pc off L S h | _ => none)
  | .ifCond .ge off => (match S with | (0, a) :: S => vbr (decide (0 ≤ a)) pc off L S h | _ => none)
  | .ifCond .gt off => (match S with | (0, a) :: S => vbr (decide (0 < a)) pc off L S h | _ => none)
  | .ifCond .le off => (match S with | (0, a) :: S => vbr (decide (a ≤ 0)) pc off L S h | _ => none)
  | .if_icmp .eq off => (match S with | (0, b) :: (0, a) :: S => vbr (decide (a = b)) pc off L S h | _ => none)
  | .if_icmp .ne off => (match S with | (0, b) :: (0, a) :: S => vbr (decide (a ≠ b)) pc off L S h | _ => none)
  | .if_icmp .lt off => (match S with | (0, b) :: (0, a) :: S => vbr (decide (a < b)) pc off L S h | _ => none)
  | .if_icmp .ge off => (match S with | (0, b) :: (0, a) :: S => vbr (decide (b ≤ a)) pc off L S h | _ => none)
  | .if_icmp .gt off => (match S with | (0, b) :: (0, a) :: S => vbr (decide (b < a)) pc off L S h | _ => none)
  | .if_icmp .le off => (match S with | (0, b) :: (0, a) :: S => vbr (decide (a ≤ b)) pc off L S h | _ => none)
  | .if_acmp .eq off => (match S with | (1, b) :: (1, a) :: S => if a ≠ 2 ∧ b ≠ 2 then vbr (decide (a = b)) pc off L S h else none | _ => none)
  | .if_acmp .ne off => (match S with | (1, b) :: (1, a) :: S => if a ≠ 2 ∧ b ≠ 2 then vbr (decide (a ≠ b)) pc off L S h else none | _ => none)
  | .tableswitch d lo hi offs => (match S with
      | (0, x) :: S => if x < lo ∨ hi < x then vjmp pc d L S h else (match offs[(x - lo).toNat]? with | some off => vjmp pc off L S h | none => none)
      | _ => none)
  | .getfield k => (match S with
      | (1, r) :: S => (match vfr (vmC m) k with
        | some q => if h 0 r 0 = 20 + (q.1 : Int) then vgo (pc + 3) L ((vkd (vtyp q.1 q.2.1), h (vfc q.1 q.2.1) r 0) :: S) h else none
        | none => none)
      | _ => none)
  | .putfield k => (match S with
      | (t, v) :: (1, r) :: S => (match vfr (vmC m) k with
        | some q => if h 0 r 0 = 20 + (q.1 : Int) ∧ t = vkd (vtyp q.1 q.2.1) ∧ (vtyp q.1 q.2.1 = FieldType.boolean → v = 0 ∨ v = 1) ∧ (vfin q.1 q.2.1 = true → (vmY m).name = "<init>" ∧ vmC m = q.1) then vgo (pc + 3) L S (vup h (vfc q.1 q.2.1) r 0 v) else none
        | none => none)
      | _ => none)
  | .getstatic k => if vmC m = 0 ∧ k = 39 then vgo (pc + 3) L ((1, 1) :: S) h else none
  | .new k => (match vxt (vmC m) k with
      | some E => (match vthrows (vmB m) pc k with
        | some q => if vxok E q.2.1 q.1 = true ∧ vmC m = 13 ∧ vmH m = [] ∧ 6 ≤ vmF m ∧ vcat S + 82 ≤ vmW m then some (.inl (.inr E, vexc h)) else none
        | none => none)
      | none => (match vnr (vmC m) k with
        | some ci => vgo (pc + 3) L ((1, h 3 0 0) :: S) (vnew h (20 + (ci : Int)) 0 (vn ci))
        | none => none))
  | .newarray .int => (match S with | (0, n) :: S => if 0 ≤ n ∧ n ≤ 100000 then vgo (pc + 2) L ((1, h 3 0 0) :: S) (vnew h 1 n n) else none | _ => none)
  | .newarray .boolean => (match S with | (0, n) :: S => if 0 ≤ n ∧ n ≤ 100000 then vgo (pc + 2) L ((1, h 3 0 0) :: S) (vnew h 2 n n) else none | _ => none)
  | .anewarray k => (match S with
      | (0, n) :: S => (match vaq (vmC m) k with
        | some ki => if 0 ≤ n ∧ n ≤ 100000 then vgo (pc + 3) L ((1, h 3 0 0) :: S) (vnew h (ki : Int) n n) else none
        | none => none)
      | _ => none)
  | .arraylength => (match S with | (1, r) :: S => if vlen h r = true then vgo (pc + 1) L ((0, h 1 r 0) :: S) h else none | _ => none)
  | .iaload => (match S with | (0, i) :: (1, r) :: S => if (h 0 r 0 = 1 ∨ h 0 r 0 = 11) ∧ vin h r i = true then vgo (pc + 1) L ((0, h 2 r i) :: S) h else none | _ => none)
  | .baload => (match S with | (0, i) :: (1, r) :: S => if h 0 r 0 = 2 ∧ vin h r i = true then vgo (pc + 1) L ((0, h 2 r i) :: S) h else none | _ => none)
  | .aaload => (match S with | (0, i) :: (1, r) :: S => if (h 0 r 0 = 4 ∨ h 0 r 0 = 5 ∨ h 0 r 0 = 6) ∧ vin h r i = true then vgo (pc + 1) L ((1, h 2 r i) :: S) h else none | _ => none)
  | .iastore => (match S with | (0, v) :: (0, i) :: (1, r) :: S => if h 0 r 0 = 1 ∧ vin h r i = true then vgo (pc + 1) L S (vup h 2 r i v) else none | _ => none)
  | .bastore => (match S with | (0, v) :: (0, i) :: (1, r) :: S => if h 0 r 0 = 2 ∧ vin h r i = true ∧ (v = 0 ∨ v = 1) then vgo (pc + 1) L S (vup h 2 r i v) else none | _ => none)
  | .aastore => (match S with
      | (1, v) :: (0, i) :: (1, r) :: S => if vin h r i = true ∧ ((h 0 r 0 = 4 ∧ (v = 0 ∨ h 0 v 0 = 25)) ∨ (h 0 r 0 = 5 ∧ (v = 0 ∨ h 0 v 0 = 26)) ∨ (h 0 r 0 = 6 ∧ (v = 0 ∨ h 0 v 0 = 22 ∨ h 0 v 0 = 29 ∨ h 0 v 0 = 32))) then vgo (pc + 1) L S (vup h 2 r i v) else none
      | _ => none)
  | .checkcast k => (match S with
      | (1, r) :: S => (match vcc (vmC m) k with
        | some ci => if r = 0 ∨ h 0 r 0 = 20 + (ci : Int) then vgo (pc + 3) L ((1, r) :: S) h else none
        | none => none)
      | _ => none)
  | .ireturn => (match S with
      | [(0, x)] => if vmR m = some .int ∨ (vmR m = some .boolean ∧ (x = 0 ∨ x = 1)) then some (.inl (.inl (some (0, x)), h)) else none
      | _ => none)
  | .areturn => (match S with
      | [(1, x)] => if vobj (vmR m) = true then some (.inl (.inl (some (1, x)), h)) else none
      | _ => none)
  | .return_ => (match S with
      | [] => if vmR m = none then some (.inl (.inl none, h)) else none
      | _ => none)
  | .invokevirtual k => (match vrs (vmC m) k with
      | some q => (match S.drop q.2.2.1 with
        | (1, b) :: rest => if q.1 < 2 ∧ h 0 b 0 = 20 + (q.2.1 : Int) then vcall m q.2.2.2 pc ((1, b) :: (S.take q.2.2.1).reverse) rest else none
        | _ => none)
      | none => none)
  | .invokespecial k => (match vrs (vmC m) k with
      | some q => (match S.drop q.2.2.1 with
        | (1, b) :: rest => if b = 0 then none else if q.1 = 6 then (if vcat rest ≤ 8 ∧ 1 ≤ vmF m ∧ 20 ≤ vmW m then vgo (pc + 3) L rest h else none) else if q.1 = 4 ∨ q.1 = 5 then vcall m q.2.2.2 pc ((1, b) :: (S.take q.2.2.1).reverse) rest else none
        | _ => none)
      | none => none)
  | .invokestatic k => (match vrs (vmC m) k with
      | some q => if q.1 = 7 then (match S with
          | (0, n) :: (0, dp) :: (1, b) :: (0, sp) :: (1, a) :: S => @ite _ (0 ≤ n ∧ 0 ≤ sp ∧ 0 ≤ dp ∧ sp + n ≤ h 1 a 0 ∧ dp + n ≤ h 1 b 0 ∧ vcpok h a sp b n ∧ vcat S ≤ 8 ∧ 1 ≤ vmF m ∧ 40 ≤ vmW m) (Classical.propDecidable _) (vgo (pc + 3) L S (vcp h a sp b dp n)) none
          | _ => none)
        else if q.1 = 8 then (match S with
          | (0, b) :: (0, a) :: S => if vcat S ≤ 8 ∧ 1 ≤ vmF m ∧ 40 ≤ vmW m then vgo (pc + 3) L ((0, if a < b then b else a) :: S) h else none
          | _ => none)
        else if q.1 = 9 then (match S with
          | (0, b) :: (0, a) :: S => if vcat S ≤ 8 ∧ 1 ≤ vmF m ∧ 40 ≤ vmW m then vgo (pc + 3) L ((0, if b < a then b else a) :: S) h else none
          | _ => none)
        else if q.2.2.1 ≤ S.length ∧ (q.1 = 2 ∨ q.1 = 3 ∨ q.1 = 10) then vcall m q.2.2.2 pc (S.take q.2.2.1).reverse (S.drop q.2.2.1) else none
      | none => none)
  | _ => none
noncomputable def vact (m : vM) (pc : Nat) (L S : List vv) (h : vH) : vA :=
  match decode (vmB m) pc with
  | .error _ => none
  | .ok q => if q.2 = vilen q.1 q.2 then vact1 q.1 m pc L S h else none
theorem vact_of {m : vM} {pc n : Nat} {ig : Instr} {L S : List vv} {h : vH} (d : decode (vmB m) pc = .ok (ig, n)) (e : n = vilen ig n) : vact m pc L S h = vact1 ig m pc L S h := by
  unfold vact
  rw [d]
  exact if_pos e
