/-! THE STEP AS A FUNCTION: what one instruction does. .inl: go on; .inr (.inl v): return; .inr (.inr (k, arguments, the rest of the stack, pc)): call method k. -/
abbrev zx_Ev : Type := (Nat × List (Option Value) × List Value × zx_W) ⊕ (Option Value) ⊕ (Nat × List Value × List Value × Nat)
def zx_to (pc : Nat) (off : Int) : Option Nat := if 0 ≤ (pc : Int) + off then some ((pc : Int) + off).toNat else none
def zx_br (pc : Nat) (off : Int) (c : Bool) (ls : List (Option Value)) (st : List Value) (w : zx_W) : Option zx_Ev := match zx_to pc off with
  | some t => some (.inl (if c then t else pc + 3, ls, st, w))
  | none => none
def zx_cmp (c : ClassFile.Cond) (x y : Int32) : Bool := match c with
  | .eq => decide (x = y)
  | .ne => decide (¬ x = y)
  | .lt => decide (x < y)
  | .ge => decide (y ≤ x)
  | .gt => decide (y < x)
  | .le => decide (x ≤ y)
def zx_ins (i : Int32) (n : Nat) : Bool := !(decide (i < 0)) && decide (i.toNatClampNeg < n)
theorem zx_ins_in {i : Int32} {n : Nat} (h : zx_ins i n = true) : ¬ (i < 0 ∨ n ≤ i.toNatClampNeg) := by
  simp only [zx_ins, Bool.and_eq_true, Bool.not_eq_true', decide_eq_false_iff_not, decide_eq_true_eq] at h
  rintro (q | q)
  · exact h.1 q
  · omega
def zl_s (o n : Nat) : Option Nat := if o = 9 ∧ n = 73 then some 1 else none
def zx_mayPut (j c k : Nat) : Bool := !(zc_T c k).2.2.2 || ((zm_y j).name == "<init>" && zm_o j == c)
def zx_ri (r : Option FieldType) (x : Int32) : Bool := match r with
  | some .int => true
  | some .boolean => x == 0 || x == 1
  | _ => false
def zx_rr (r : Option FieldType) : Bool := match r with
  | some (.object _) => true
  | some (.array _) => true
  | _ => false
/-- the methods that are called: their number (1000: System.arraycopy, 1001: Object's constructor, 1002: Math.max, 1003 and 1004: the law's own feed and end), arguments, kind -/
def zx_tg (o n : Nat) : Option Nat := if o = 7 ∧ n = 11 then some 3 else zl_m o n
def zx_na (k : Nat) : Nat := if k < 264 then (if zm_kd k = 2 then zm_n k else zm_n k + 1) else if k = 1000 then 5 else if k = 1001 then 1 else if k = 1002 then 2 else if k = 1003 then 7 else 2
def zx_ck (k : Nat) : Nat := if k < 264 then zm_kd k else if k = 1001 then 1 else 2
def zx_rc (kd k : Nat) (as : List Value) (w : zx_W) : Prop := match as with
  | .ref q :: _ => kd = 0 → w.2.1 q = .inl (zm_o k) ∧ q < w.1.1
  | _ => kd = 2
def zx_rcb (kd k : Nat) (as : List Value) (w : zx_W) : Bool := match as with
  | .ref q :: _ => kd != 0 || (decide (w.2.1 q = .inl (zm_o k)) && decide (q < w.1.1))
  | _ => kd == 2
def zx_inv (j kd n pc : Nat) (st : List Value) (w : zx_W) : Option zx_Ev := match zx_tg (zm_o j) n with
  | some k => if (zx_ck k = kd ∧ zx_na k ≤ st.length) ∧ ((st.drop (zx_na k)).map fun v => v.category).sum ≤ 8 ∧ zx_rcb kd k (st.take (zx_na k)).reverse w = true then some (.inr (.inr (k, (st.take (zx_na k)).reverse, st.drop (zx_na k), pc + 3))) else none
  | none => none
def zx_len (i : Instr) (n : Nat) : Bool := match i with
  | .iadd => n == 1
  | .isub => n == 1
  | .imul => n == 1
  | .iand => n == 1
  | .ior => n == 1
  | .ixor => n == 1
  | .idiv => n == 1
  | .irem => n == 1
  | .ishl => n == 1
  | .ishr => n == 1
  | .iushr => n == 1
  | .ineg => n == 1
  | .ladd => n == 1
  | .lsub => n == 1
  | .lmul => n == 1
  | .land => n == 1
  | .lor => n == 1
  | .lxor => n == 1
  | .ldiv => n == 1
  | .lrem => n == 1
  | .lneg => n == 1
  | .lshl => n == 1
  | .lshr => n == 1
  | .lushr => n == 1
  | .lcmp => n == 1
  | .i2l => n == 1
  | .l2i => n == 1
  | .i2b => n == 1
  | .i2s => n == 1
  | .i2c => n == 1
  | .dup => n == 1
  | .pop => n == 1
  | .dup_x1 => n == 1
  | .dup_x2 => n == 1
  | .dup2 => n == 1
  | .iconst _ => n == 1
  | .bipush _ => n == 2
  | .sipush _ => n == 3
  | .lconst _ => n == 1
  | .iload_n _ => n == 1
  | .iload _ => n == 2
  | .lload_n _ => n == 1
  | .lload _ => n == 2
  | .aload_n _ => n == 1
  | .aload _ => n == 2
  | .istore_n _ => n == 1
  | .istore _ => n == 2
  | .lstore_n _ => n == 1
  | .lstore _ => n == 2
  | .astore_n _ => n == 1
  | .astore _ => n == 2
  | .aconst_null => n == 1
  | .iaload => n == 1
  | .laload => n == 1
  | .baload => n == 1
  | .iastore => n == 1
  | .lastore => n == 1
  | .bastore => n == 1
  | .arraylength => n == 1
  | .ireturn => n == 1
  | .lreturn => n == 1
  | .areturn => n == 1
  | .return_ => n == 1
  | .ldc _ => n == 2
  | .newarray _ => n == 2
  | .ldc_w _ => n == 3
  | .ldc2_w _ => n == 3
  | .getfield _ => n == 3
  | .putfield _ => n == 3
  | .getstatic _ => n == 3
  | .new _ => n == 3
  | .invokevirtual _ => n == 3
  | .invokespecial _ => n == 3
  | .invokestatic _ => n == 3
  | .goto _ => n == 3
  | .ifnull _ => n == 3
  | .ifnonnull _ => n == 3
  | .ifCond _ _ => n == 3
  | .if_icmp _ _ => n == 3
  | .iinc _ _ => n == 3
  | .tableswitch _ _ _ _ => true
  | .lookupswitch _ _ => true
  | _ => false
def zx_i (j : Nat) (i : Instr) (pc : Nat) (ls : List (Option Value)) (st : List Value) (w : zx_W) : Option zx_Ev := match i with
  | .iadd => match st with
    | .int y :: .int x :: r => some (.inl (pc + 1, ls, .int (x + y) :: r, w))
    | _ => none
  | .isub => match st with
    | .int y :: .int x :: r => some (.inl (pc + 1, ls, .int (x - y) :: r, w))
    | _ => none
  | .imul => match st with
    | .int y :: .int x :: r => some (.inl (pc + 1, ls, .int (x * y) :: r, w))
    | _ => none
  | .iand => match st with
    | .int y :: .int x :: r => some (.inl (pc + 1, ls, .int (x &&& y) :: r, w))
    | _ => none
  | .ior => match st with
    | .int y :: .int x :: r => some (.inl (pc + 1, ls, .int (x ||| y) :: r, w))
    | _ => none
  | .ixor => match st with
    | .int y :: .int x :: r => some (.inl (pc + 1, ls, .int (x ^^^ y) :: r, w))
    | _ => none
  | .idiv => match st with
    | .int y :: .int x :: r => if y = 0 then none else some (.inl (pc + 1, ls, .int (x / y) :: r, w))
    | _ => none
  | .irem => match st with
    | .int y :: .int x :: r => if y = 0 then none else some (.inl (pc + 1, ls, .int (x - x / y * y) :: r, w))
    | _ => none
  | .ishl => match st with
    | .int y :: .int x :: r => some (.inl (pc + 1, ls, .int (x <<< (y &&& 31)) :: r, w))
    | _ => none
  | .ishr => match st with
    | .int y :: .int x :: r => some (.inl (pc + 1, ls, .int (x >>> (y &&& 31)) :: r, w))
    | _ => none
  | .iushr => match st with
    | .int y :: .int x :: r => some (.inl (pc + 1, ls, .int (x.toUInt32 >>> (y.toUInt32 &&& Int32.toUInt32 31)).toInt32 :: r, w))
    | _ => none
  | .ineg => match st with
    | .int x :: r => some (.inl (pc + 1, ls, .int (-x) :: r, w))
    | _ => none
  | .ladd => match st with
    | .long y :: .long x :: r => some (.inl (pc + 1, ls, .long (x + y) :: r, w))
    | _ => none
  | .lsub => match st with
    | .long y :: .long x :: r => some (.inl (pc + 1, ls, .long (x - y) :: r, w))
    | _ => none
  | .lmul => match st with
    | .long y :: .long x :: r => some (.inl (pc + 1, ls, .long (x * y) :: r, w))
    | _ => none
  | .land => match st with
    | .long y :: .long x :: r => some (.inl (pc + 1, ls, .long (x &&& y) :: r, w))
    | _ => none
  | .lor => match st with
    | .long y :: .long x :: r => some (.inl (pc + 1, ls, .long (x ||| y) :: r, w))
    | _ => none
  | .lxor => match st with
    | .long y :: .long x :: r => some (.inl (pc + 1, ls, .long (x ^^^ y) :: r, w))
    | _ => none
  | .ldiv => match st with
    | .long y :: .long x :: r => if y = 0 then none else some (.inl (pc + 1, ls, .long (x / y) :: r, w))
    | _ => none
  | .lrem => match st with
    | .long y :: .long x :: r => if y = 0 then none else some (.inl (pc + 1, ls, .long (x - x / y * y) :: r, w))
    | _ => none
  | .lneg => match st with
    | .long x :: r => some (.inl (pc + 1, ls, .long (-x) :: r, w))
    | _ => none
  | .lshl => match st with
    | .int y :: .long x :: r => some (.inl (pc + 1, ls, .long (x <<< (y.toInt64 &&& 63)) :: r, w))
    | _ => none
  | .lshr => match st with
    | .int y :: .long x :: r => some (.inl (pc + 1, ls, .long (x >>> (y.toInt64 &&& 63)) :: r, w))
    | _ => none
  | .lushr => match st with
    | .int y :: .long x :: r => some (.inl (pc + 1, ls, .long (x.toUInt64 >>> (y.toInt64.toUInt64 &&& Int64.toUInt64 63)).toInt64 :: r, w))
    | _ => none
  | .lcmp => match st with
    | .long y :: .long x :: r => some (.inl (pc + 1, ls, .int (lg_cmp x y) :: r, w))
    | _ => none
  | .i2l => match st with
    | .int x :: r => some (.inl (pc + 1, ls, .long x.toInt64 :: r, w))
    | _ => none
  | .l2i => match st with
    | .long x :: r => some (.inl (pc + 1, ls, .int x.toInt32 :: r, w))
    | _ => none
  | .i2b => match st with
    | .int x :: r => some (.inl (pc + 1, ls, .int x.toInt8.toInt32 :: r, w))
    | _ => none
  | .i2s => match st with
    | .int x :: r => some (.inl (pc + 1, ls, .int x.toInt16.toInt32 :: r, w))
    | _ => none
  | .i2c => match st with
    | .int x :: r => some (.inl (pc + 1, ls, .int (x.toUInt32 % 65536).toInt32 :: r, w))
    | _ => none
  | .dup => match st with
    | a :: r => if a.category = 1 then some (.inl (pc + 1, ls, a :: a :: r, w)) else none
    | _ => none
  | .pop => match st with
    | a :: r => if a.category = 1 then some (.inl (pc + 1, ls, r, w)) else none
    | _ => none
  | .dup_x1 => match st with
    | a :: b :: r => if a.category = 1 ∧ b.category = 1 then some (.inl (pc + 1, ls, a :: b :: a :: r, w)) else none
    | _ => none
  | .dup_x2 => match st with
    | a :: b :: e :: r => if a.category = 1 ∧ b.category = 1 ∧ e.category = 1 then some (.inl (pc + 1, ls, a :: b :: e :: a :: r, w)) else none
    | _ => none
  | .dup2 => match st with
    | a :: b :: r => if a.category = 1 ∧ b.category = 1 then some (.inl (pc + 1, ls, a :: b :: a :: b :: r, w)) else none
    | _ => none
  | .iconst n => some (.inl (pc + 1, ls, .int (Int32.ofInt n) :: st, w))
  | .bipush n => some (.inl (pc + 2, ls, .int (Int8.ofInt n).toInt32 :: st, w))
  | .sipush n => some (.inl (pc + 3, ls, .int (Int16.ofInt n).toInt32 :: st, w))
  | .lconst n => some (.inl (pc + 1, ls, .long (Int64.ofNat (n : Nat)) :: st, w))
  | .aconst_null => some (.inl (pc + 1, ls, .null :: st, w))
  | .iload_n k => match zx_get ls k with
    | some (.int x) => some (.inl (pc + 1, ls, .int x :: st, w))
    | _ => none
  | .iload k => match zx_get ls k with
    | some (.int x) => some (.inl (pc + 2, ls, .int x :: st, w))
    | _ => none
  | .lload_n k => match zx_get ls k with
    | some (.long x) => some (.inl (pc + 1, ls, .long x :: st, w))
    | _ => none
  | .lload k => match zx_get ls k with
    | some (.long x) => some (.inl (pc + 2, ls, .long x :: st, w))
    | _ => none
  | .aload_n k => match zx_get ls k with
    | some (.ref x) => some (.inl (pc + 1, ls, .ref x :: st, w))
    | some .null => some (.inl (pc + 1, ls, .null :: st, w))
    | _ => none
  | .aload k => match zx_get ls k with
    | some (.ref x) => some (.inl (pc + 2, ls, .ref x :: st, w))
    | some .null => some (.inl (pc + 2, ls, .null :: st, w))
    | _ => none
  | .istore_n k => match st with
    | .int x :: r => if (k : Nat) < ls.length then some (.inl (pc + 1, zx_s1 ls k (.int x), r, w)) else none
    | _ => none
  | .lstore_n k => match st with
    | .long x :: r => if (k : Nat) + 1 < ls.length then some (.inl (pc + 1, zx_s2 ls k (.long x), r, w)) else none
    | _ => none
  | .astore_n k => match st with
    | .ref x :: r => if (k : Nat) < ls.length then some (.inl (pc + 1, zx_s1 ls k (.ref x), r, w)) else none
    | .null :: r => if (k : Nat) < ls.length then some (.inl (pc + 1, zx_s1 ls k .null, r, w)) else none
    | _ => none
  | .istore k => match st with
    | .int x :: r => if (k : Nat) < ls.length then some (.inl (pc + 2, zx_s1 ls k (.int x), r, w)) else none
    | _ => none
  | .lstore k => match st with
    | .long x :: r => if (k : Nat) + 1 < ls.length then some (.inl (pc + 2, zx_s2 ls k (.long x), r, w)) else none
    | _ => none
  | .astore k => match st with
    | .ref x :: r => if (k : Nat) < ls.length then some (.inl (pc + 2, zx_s1 ls k (.ref x), r, w)) else none
    | .null :: r => if (k : Nat) < ls.length then some (.inl (pc + 2, zx_s1 ls k .null, r, w)) else none
    | _ => none
  | .iinc k n => match zx_get ls k with
    | some (.int x) => some (.inl (pc + 3, zx_s1 ls k (.int (x + Int32.ofInt n)), st, w))
    | _ => none
  | .ifCond c off => match st with
    | .int x :: r => zx_br pc off (zx_cmp c x 0) ls r w
    | _ => none
  | .if_icmp c off => match st with
    | .int y :: .int x :: r => zx_br pc off (zx_cmp c x y) ls r w
    | _ => none
  | .goto off => match zx_to pc off with
    | some t => some (.inl (t, ls, st, w))
    | none => none
  | .ifnull off => match st with
    | .null :: r => zx_br pc off true ls r w
    | .ref _ :: r => zx_br pc off false ls r w
    | _ => none
  | .ifnonnull off => match st with
    | .null :: r => zx_br pc off false ls r w
    | .ref _ :: r => zx_br pc off true ls r w
    | _ => none
  | .tableswitch dflt lo hi offs => match st with
    | .int x :: r => match zx_to pc (if x.toInt < lo ∨ hi < x.toInt then dflt else (offs[(x.toInt - lo).toNat]?).getD (-1 - (pc : Int))) with
      | some t => some (.inl (t, ls, r, w))
      | none => none
    | _ => none
  | .lookupswitch dflt ps => match st with
    | .int x :: r => if (ps.toList.zip (ps.toList.drop 1)).all (fun (a, next) => a.1 < next.1) = true then match zx_to pc (Op.lookupswitch.offset ps.toList dflt x.toInt) with
        | some t => some (.inl (t, ls, r, w))
        | none => none
      else none
    | _ => none
  | .ldc n => match zl_n (zm_o j) n with
    | some x => some (.inl (pc + 2, ls, .int x :: st, w))
    | none => none
  | .ldc_w n => match zl_n (zm_o j) n with
    | some x => some (.inl (pc + 3, ls, .int x :: st, w))
    | none => none
  | .ldc2_w n => match zl_l (zm_o j) n with
    | some x => some (.inl (pc + 3, ls, .long x :: st, w))
    | none => none
  | .getfield n => match st, zl_f (zm_o j) n with
    | .ref q :: r, some (c, k) => if w.2.1 q = .inl c ∧ q < w.1.1 then some (.inl (pc + 3, ls, zx_val w (zt_ty c k) q k :: r, w)) else none
    | _, _ => none
  | .putfield n => match st, zl_f (zm_o j) n with
    | x :: .ref q :: r, some (c, k) => if (w.2.1 q = .inl c ∧ q < w.1.1) ∧ zx_fit (zt_ty c k) x = true ∧ zx_mayPut j c k = true then some (.inl (pc + 3, ls, r, zx_set w q k x)) else none
    | _, _ => none
  | .getstatic n => match zl_s (zm_o j) n with
    | some q => some (.inl (pc + 3, ls, .ref q :: st, w))
    | none => none
  | .arraylength => match st with
    | .ref q :: r => match w.2.1 q with
      | .inr (_, n) => if q < w.1.1 then some (.inl (pc + 1, ls, .int (Int32.ofNat n) :: r, w)) else none
      | _ => none
    | _ => none
  | .iaload => match st with
    | .int i :: .ref q :: r => match w.2.1 q with
      | .inr (.int, n) => if q < w.1.1 ∧ zx_ins i n = true then some (.inl (pc + 1, ls, .int (w.2.2.1 q i.toNatClampNeg) :: r, w)) else none
      | _ => none
    | _ => none
  | .laload => match st with
    | .int i :: .ref q :: r => match w.2.1 q with
      | .inr (.long, n) => if q < w.1.1 ∧ zx_ins i n = true then some (.inl (pc + 1, ls, .long (w.2.2.2.1 q i.toNatClampNeg) :: r, w)) else none
      | _ => none
    | _ => none
  | .baload => match st with
    | .int i :: .ref q :: r => match w.2.1 q with
      | .inr (.byte, n) => if q < w.1.1 ∧ zx_ins i n = true then some (.inl (pc + 1, ls, .int (w.2.2.1 q i.toNatClampNeg) :: r, w)) else none
      | .inr (.boolean, n) => if q < w.1.1 ∧ zx_ins i n = true then some (.inl (pc + 1, ls, .int (w.2.2.1 q i.toNatClampNeg) :: r, w)) else none
      | _ => none
    | _ => none
  | .iastore => match st with
    | .int x :: .int i :: .ref q :: r => match w.2.1 q with
      | .inr (.int, n) => if (2 ≤ q ∧ q < w.1.1) ∧ zx_ins i n = true then some (.inl (pc + 1, ls, r, zx_set w q i.toNatClampNeg (.int x))) else none
      | _ => none
    | _ => none
  | .lastore => match st with
    | .long x :: .int i :: .ref q :: r => match w.2.1 q with
      | .inr (.long, n) => if (2 ≤ q ∧ q < w.1.1) ∧ zx_ins i n = true then some (.inl (pc + 1, ls, r, zx_set w q i.toNatClampNeg (.long x))) else none
      | _ => none
    | _ => none
  | .bastore => match st with
    | .int x :: .int i :: .ref q :: r => match w.2.1 q with
      | .inr (.byte, n) => if (2 ≤ q ∧ q < w.1.1) ∧ zx_ins i n = true then some (.inl (pc + 1, ls, r, zx_set w q i.toNatClampNeg (.int x.toInt8.toInt32))) else none
      | .inr (.boolean, n) => if (2 ≤ q ∧ q < w.1.1) ∧ zx_ins i n = true then some (.inl (pc + 1, ls, r, zx_set w q i.toNatClampNeg (.int (x &&& 1)))) else none
      | _ => none
    | _ => none
  | .new n => match zl_c (zm_o j) n with
    | some c => if w.1.1 < 119 then some (.inl (pc + 3, ls, .ref w.1.1 :: st, zx_new w (.inl c) (zt_n c))) else none
    | none => none
  | .newarray t => match st with
    | .int x :: r => if ((¬ x < 0 ∧ x.toNatClampNeg * componentBytes (newarray.typeOf t) ≤ 536870912) ∧ zx_ty (newarray.typeOf t) = true) ∧ w.1.1 < 119 then some (.inl (pc + 2, ls, .ref w.1.1 :: r, zx_new w (.inr (newarray.typeOf t, x.toNatClampNeg)) x.toNatClampNeg)) else none
    | _ => none
  | .ireturn => match st with
    | [.int x] => if zx_ri (zm_r j) x = true then some (.inr (.inl (some (.int x)))) else none
    | _ => none
  | .lreturn => match st with
    | [.long x] => if zm_r j = some .long then some (.inr (.inl (some (.long x)))) else none
    | _ => none
  | .areturn => match st with
    | [.ref x] => if zx_rr (zm_r j) = true then some (.inr (.inl (some (.ref x)))) else none
    | [.null] => if zx_rr (zm_r j) = true then some (.inr (.inl (some .null))) else none
    | _ => none
  | .return_ => match st with
    | [] => if zm_r j = none then some (.inr (.inl none)) else none
    | _ => none
  | .invokevirtual n => zx_inv j 0 n pc st w
  | .invokespecial n => zx_inv j 1 n pc st w
  | .invokestatic n => zx_inv j 2 n pc st w
  | _ => none
