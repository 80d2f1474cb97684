/-! THE EQUATIONS OF zx_go, one an instruction -/
theorem zs_at {j pc n : Nat} {i : Instr} {ls : List (Option Value)} {st : List Value} {w : zx_W} (hd : decode (zm_cc j) pc = .ok (i, n)) (hn : zx_len i n = true) : zx_step j pc ls st w = zx_i j i pc ls st w := by
  unfold zx_step
  rw [hd]
  show (if zx_len i n = true then _ else _) = _
  rw [if_pos hn]
section ZS
variable {d j pc : Nat} {ls : List (Option Value)} {r : List Value} {w : zx_W}
theorem zs_iadd {y : Int32} {x : Int32} (hd : decode (zm_cc j) pc = .ok (.iadd, 1)) : zx_go d j pc ls (.int y :: .int x :: r) w = zx_go d j (pc + 1) ls (.int (x + y) :: r) w :=
  zx_go_step ((zs_at hd rfl).trans rfl)
theorem zs_isub {y : Int32} {x : Int32} (hd : decode (zm_cc j) pc = .ok (.isub, 1)) : zx_go d j pc ls (.int y :: .int x :: r) w = zx_go d j (pc + 1) ls (.int (x - y) :: r) w :=
  zx_go_step ((zs_at hd rfl).trans rfl)
theorem zs_imul {y : Int32} {x : Int32} (hd : decode (zm_cc j) pc = .ok (.imul, 1)) : zx_go d j pc ls (.int y :: .int x :: r) w = zx_go d j (pc + 1) ls (.int (x * y) :: r) w :=
  zx_go_step ((zs_at hd rfl).trans rfl)
theorem zs_iand {y : Int32} {x : Int32} (hd : decode (zm_cc j) pc = .ok (.iand, 1)) : zx_go d j pc ls (.int y :: .int x :: r) w = zx_go d j (pc + 1) ls (.int (x &&& y) :: r) w :=
  zx_go_step ((zs_at hd rfl).trans rfl)
theorem zs_ior {y : Int32} {x : Int32} (hd : decode (zm_cc j) pc = .ok (.ior, 1)) : zx_go d j pc ls (.int y :: .int x :: r) w = zx_go d j (pc + 1) ls (.int (x ||| y) :: r) w :=
  zx_go_step ((zs_at hd rfl).trans rfl)
theorem zs_ixor {y : Int32} {x : Int32} (hd : decode (zm_cc j) pc = .ok (.ixor, 1)) : zx_go d j pc ls (.int y :: .int x :: r) w = zx_go d j (pc + 1) ls (.int (x ^^^ y) :: r) w :=
  zx_go_step ((zs_at hd rfl).trans rfl)
theorem zs_idiv {y : Int32} {x : Int32} (hd : decode (zm_cc j) pc = .ok (.idiv, 1)) (hg : ¬ y = 0) : zx_go d j pc ls (.int y :: .int x :: r) w = zx_go d j (pc + 1) ls (.int (x / y) :: r) w :=
  zx_go_step ((zs_at hd rfl).trans (if_neg hg))
theorem zs_irem {y : Int32} {x : Int32} (hd : decode (zm_cc j) pc = .ok (.irem, 1)) (hg : ¬ y = 0) : zx_go d j pc ls (.int y :: .int x :: r) w = zx_go d j (pc + 1) ls (.int (x - x / y * y) :: r) w :=
  zx_go_step ((zs_at hd rfl).trans (if_neg hg))
theorem zs_ishl {y : Int32} {x : Int32} (hd : decode (zm_cc j) pc = .ok (.ishl, 1)) : zx_go d j pc ls (.int y :: .int x :: r) w = zx_go d j (pc + 1) ls (.int (x <<< (y &&& 31)) :: r) w :=
  zx_go_step ((zs_at hd rfl).trans rfl)
theorem zs_ishr {y : Int32} {x : Int32} (hd : decode (zm_cc j) pc = .ok (.ishr, 1)) : zx_go d j pc ls (.int y :: .int x :: r) w = zx_go d j (pc + 1) ls (.int (x >>> (y &&& 31)) :: r) w :=
  zx_go_step ((zs_at hd rfl).trans rfl)
theorem zs_iushr {y : Int32} {x : Int32} (hd : decode (zm_cc j) pc = .ok (.iushr, 1)) : zx_go d j pc ls (.int y :: .int x :: r) w = zx_go d j (pc + 1) ls (.int (x.toUInt32 >>> (y.toUInt32 &&& Int32.toUInt32 31)).toInt32 :: r) w :=
  zx_go_step ((zs_at hd rfl).trans rfl)
theorem zs_ineg {x : Int32} (hd : decode (zm_cc j) pc = .ok (.ineg, 1)) : zx_go d j pc ls (.int x :: r) w = zx_go d j (pc + 1) ls (.int (-x) :: r) w :=
  zx_go_step ((zs_at hd rfl).trans rfl)
theorem zs_ladd {y : Int64} {x : Int64} (hd : decode (zm_cc j) pc = .ok (.ladd, 1)) : zx_go d j pc ls (.long y :: .long x :: r) w = zx_go d j (pc + 1) ls (.long (x + y) :: r) w :=
  zx_go_step ((zs_at hd rfl).trans rfl)
theorem zs_lsub {y : Int64} {x : Int64} (hd : decode (zm_cc j) pc = .ok (.lsub, 1)) : zx_go d j pc ls (.long y :: .long x :: r) w = zx_go d j (pc + 1) ls (.long (x - y) :: r) w :=
  zx_go_step ((zs_at hd rfl).trans rfl)
theorem zs_lmul {y : Int64} {x : Int64} (hd : decode (zm_cc j) pc = .ok (.lmul, 1)) : zx_go d j pc ls (.long y :: .long x :: r) w = zx_go d j (pc + 1) ls (.long (x * y) :: r) w :=
  zx_go_step ((zs_at hd rfl).trans rfl)
theorem zs_land {y : Int64} {x : Int64} (hd : decode (zm_cc j) pc = .ok (.land, 1)) : zx_go d j pc ls (.long y :: .long x :: r) w = zx_go d j (pc + 1) ls (.long (x &&& y) :: r) w :=
  zx_go_step ((zs_at hd rfl).trans rfl)
theorem zs_lor {y : Int64} {x : Int64} (hd : decode (zm_cc j) pc = .ok (.lor, 1)) : zx_go d j pc ls (.long y :: .long x :: r) w = zx_go d j (pc + 1) ls (.long (x ||| y) :: r) w :=
  zx_go_step ((zs_at hd rfl).trans rfl)
theorem zs_lxor {y : Int64} {x : Int64} (hd : decode (zm_cc j) pc = .ok (.lxor, 1)) : zx_go d j pc ls (.long y :: .long x :: r) w = zx_go d j (pc + 1) ls (.long (x ^^^ y) :: r) w :=
  zx_go_step ((zs_at hd rfl).trans rfl)
theorem zs_ldiv {y : Int64} {x : Int64} (hd : decode (zm_cc j) pc = .ok (.ldiv, 1)) (hg : ¬ y = 0) : zx_go d j pc ls (.long y :: .long x :: r) w = zx_go d j (pc + 1) ls (.long (x / y) :: r) w :=
  zx_go_step ((zs_at hd rfl).trans (if_neg hg))
theorem zs_lrem {y : Int64} {x : Int64} (hd : decode (zm_cc j) pc = .ok (.lrem, 1)) (hg : ¬ y = 0) : zx_go d j pc ls (.long y :: .long x :: r) w = zx_go d j (pc + 1) ls (.long (x - x / y * y) :: r) w :=
  zx_go_step ((zs_at hd rfl).trans (if_neg hg))
theorem zs_lneg {x : Int64} (hd : decode (zm_cc j) pc = .ok (.lneg, 1)) : zx_go d j pc ls (.long x :: r) w = zx_go d j (pc + 1) ls (.long (-x) :: r) w :=
  zx_go_step ((zs_at hd rfl).trans rfl)
theorem zs_lshl {y : Int32} {x : Int64} (hd : decode (zm_cc j) pc = .ok (.lshl, 1)) : zx_go d j pc ls (.int y :: .long x :: r) w = zx_go d j (pc + 1) ls (.long (x <<< (y.toInt64 &&& 63)) :: r) w :=
  zx_go_step ((zs_at hd rfl).trans rfl)
theorem zs_lshr {y : Int32} {x : Int64} (hd : decode (zm_cc j) pc = .ok (.lshr, 1)) : zx_go d j pc ls (.int y :: .long x :: r) w = zx_go d j (pc + 1) ls (.long (x >>> (y.toInt64 &&& 63)) :: r) w :=
  zx_go_step ((zs_at hd rfl).trans rfl)
theorem zs_lushr {y : Int32} {x : Int64} (hd : decode (zm_cc j) pc = .ok (.lushr, 1)) : zx_go d j pc ls (.int y :: .long x :: r) w = zx_go d j (pc + 1) ls (.long (x.toUInt64 >>> (y.toInt64.toUInt64 &&& Int64.toUInt64 63)).toInt64 :: r) w :=
  zx_go_step ((zs_at hd rfl).trans rfl)
theorem zs_lcmp {y : Int64} {x : Int64} (hd : decode (zm_cc j) pc = .ok (.lcmp, 1)) : zx_go d j pc ls (.long y :: .long x :: r) w = zx_go d j (pc + 1) ls (.int (lg_cmp x y) :: r) w :=
  zx_go_step ((zs_at hd rfl).trans rfl)
theorem zs_i2l {x : Int32} (hd : decode (zm_cc j) pc = .ok (.i2l, 1)) : zx_go d j pc ls (.int x :: r) w = zx_go d j (pc + 1) ls (.long x.toInt64 :: r) w :=
  zx_go_step ((zs_at hd rfl).trans rfl)
theorem zs_l2i {x : Int64} (hd : decode (zm_cc j) pc = .ok (.l2i, 1)) : zx_go d j pc ls (.long x :: r) w = zx_go d j (pc + 1) ls (.int x.toInt32 :: r) w :=
  zx_go_step ((zs_at hd rfl).trans rfl)
theorem zs_i2b {x : Int32} (hd : decode (zm_cc j) pc = .ok (.i2b, 1)) : zx_go d j pc ls (.int x :: r) w = zx_go d j (pc + 1) ls (.int x.toInt8.toInt32 :: r) w :=
  zx_go_step ((zs_at hd rfl).trans rfl)
theorem zs_i2s {x : Int32} (hd : decode (zm_cc j) pc = .ok (.i2s, 1)) : zx_go d j pc ls (.int x :: r) w = zx_go d j (pc + 1) ls (.int x.toInt16.toInt32 :: r) w :=
  zx_go_step ((zs_at hd rfl).trans rfl)
theorem zs_i2c {x : Int32} (hd : decode (zm_cc j) pc = .ok (.i2c, 1)) : zx_go d j pc ls (.int x :: r) w = zx_go d j (pc + 1) ls (.int (x.toUInt32 % 65536).toInt32 :: r) w :=
  zx_go_step ((zs_at hd rfl).trans rfl)
theorem zs_dup {a : Value} (hd : decode (zm_cc j) pc = .ok (.dup, 1)) (hg : a.category = 1) : zx_go d j pc ls (a :: r) w = zx_go d j (pc + 1) ls (a :: a :: r) w :=
  zx_go_step ((zs_at hd rfl).trans (if_pos hg))
theorem zs_pop {a : Value} (hd : decode (zm_cc j) pc = .ok (.pop, 1)) (hg : a.category = 1) : zx_go d j pc ls (a :: r) w = zx_go d j (pc + 1) ls (r) w :=
  zx_go_step ((zs_at hd rfl).trans (if_pos hg))
theorem zs_dup_x1 {a b : Value} (hd : decode (zm_cc j) pc = .ok (.dup_x1, 1)) (hg : a.category = 1 ∧ b.category = 1) : zx_go d j pc ls (a :: b :: r) w = zx_go d j (pc + 1) ls (a :: b :: a :: r) w :=
  zx_go_step ((zs_at hd rfl).trans (if_pos hg))
theorem zs_dup_x2 {a b e : Value} (hd : decode (zm_cc j) pc = .ok (.dup_x2, 1)) (hg : a.category = 1 ∧ b.category = 1 ∧ e.category = 1) : zx_go d j pc ls (a :: b :: e :: r) w = zx_go d j (pc + 1) ls (a :: b :: e :: a :: r) w :=
  zx_go_step ((zs_at hd rfl).trans (if_pos hg))
theorem zs_dup2 {a b : Value} (hd : decode (zm_cc j) pc = .ok (.dup2, 1)) (hg : a.category = 1 ∧ b.category = 1) : zx_go d j pc ls (a :: b :: r) w = zx_go d j (pc + 1) ls (a :: b :: a :: b :: r) w :=
  zx_go_step ((zs_at hd rfl).trans (if_pos hg))
theorem zs_iconst {n : Int} {z : Int32} (hd : decode (zm_cc j) pc = .ok (.iconst n, 1)) (hz : (Int32.ofInt n) = z) : zx_go d j pc ls r w = zx_go d j (pc + 1) ls (.int z :: r) w := by
  subst hz
  exact zx_go_step ((zs_at hd rfl).trans rfl)
theorem zs_bipush {n : Int} {z : Int32} (hd : decode (zm_cc j) pc = .ok (.bipush n, 2)) (hz : (Int8.ofInt n).toInt32 = z) : zx_go d j pc ls r w = zx_go d j (pc + 2) ls (.int z :: r) w := by
  subst hz
  exact zx_go_step ((zs_at hd rfl).trans rfl)
theorem zs_sipush {n : Int} {z : Int32} (hd : decode (zm_cc j) pc = .ok (.sipush n, 3)) (hz : (Int16.ofInt n).toInt32 = z) : zx_go d j pc ls r w = zx_go d j (pc + 3) ls (.int z :: r) w := by
  subst hz
  exact zx_go_step ((zs_at hd rfl).trans rfl)
theorem zs_lconst {n : Fin 2} {z : Int64} (hd : decode (zm_cc j) pc = .ok (.lconst n, 1)) (hz : (Int64.ofNat (n : Nat)) = z) : zx_go d j pc ls r w = zx_go d j (pc + 1) ls (.long z :: r) w := by
  subst hz
  exact zx_go_step ((zs_at hd rfl).trans rfl)
theorem zs_aconst_null (hd : decode (zm_cc j) pc = .ok (.aconst_null, 1)) : zx_go d j pc ls r w = zx_go d j (pc + 1) ls (.null :: r) w :=
  zx_go_step ((zs_at hd rfl).trans rfl)
theorem zs_iload_n {k : Fin 4} {x : Int32} (hd : decode (zm_cc j) pc = .ok (.iload_n k, 1)) (hg : zx_get ls k = some (.int x)) : zx_go d j pc ls r w = zx_go d j (pc + 1) ls (.int x :: r) w := by
  refine zx_go_step ((zs_at hd rfl).trans ?_)
  unfold zx_i
  dsimp only
  rw [hg]
theorem zs_iload {k : Nat} {x : Int32} (hd : decode (zm_cc j) pc = .ok (.iload k, 2)) (hg : zx_get ls k = some (.int x)) : zx_go d j pc ls r w = zx_go d j (pc + 2) ls (.int x :: r) w := by
  refine zx_go_step ((zs_at hd rfl).trans ?_)
  unfold zx_i
  dsimp only
  rw [hg]
theorem zs_lload_n {k : Fin 4} {x : Int64} (hd : decode (zm_cc j) pc = .ok (.lload_n k, 1)) (hg : zx_get ls k = some (.long x)) : zx_go d j pc ls r w = zx_go d j (pc + 1) ls (.long x :: r) w := by
  refine zx_go_step ((zs_at hd rfl).trans ?_)
  unfold zx_i
  dsimp only
  rw [hg]
theorem zs_lload {k : Nat} {x : Int64} (hd : decode (zm_cc j) pc = .ok (.lload k, 2)) (hg : zx_get ls k = some (.long x)) : zx_go d j pc ls r w = zx_go d j (pc + 2) ls (.long x :: r) w := by
  refine zx_go_step ((zs_at hd rfl).trans ?_)
  unfold zx_i
  dsimp only
  rw [hg]
theorem zs_aload_n {k : Fin 4} {x : Nat} (hd : decode (zm_cc j) pc = .ok (.aload_n k, 1)) (hg : zx_get ls k = some (.ref x)) : zx_go d j pc ls r w = zx_go d j (pc + 1) ls (.ref x :: r) w := by
  refine zx_go_step ((zs_at hd rfl).trans ?_)
  unfold zx_i
  dsimp only
  rw [hg]
theorem zs_aload {k : Nat} {x : Nat} (hd : decode (zm_cc j) pc = .ok (.aload k, 2)) (hg : zx_get ls k = some (.ref x)) : zx_go d j pc ls r w = zx_go d j (pc + 2) ls (.ref x :: r) w := by
  refine zx_go_step ((zs_at hd rfl).trans ?_)
  unfold zx_i
  dsimp only
  rw [hg]
theorem zs_istore_n {k : Fin 4} {x : Int32} {ls' : List (Option Value)} (hd : decode (zm_cc j) pc = .ok (.istore_n k, 1)) (hk : (k : Nat) < ls.length) (hg : zx_s1 ls k (.int x) = ls') : zx_go d j pc ls (.int x :: r) w = zx_go d j (pc + 1) ls' r w := by
  subst hg
  exact zx_go_step ((zs_at hd rfl).trans (if_pos hk))
theorem zs_istore {k : Nat} {x : Int32} {ls' : List (Option Value)} (hd : decode (zm_cc j) pc = .ok (.istore k, 2)) (hk : (k : Nat) < ls.length) (hg : zx_s1 ls k (.int x) = ls') : zx_go d j pc ls (.int x :: r) w = zx_go d j (pc + 2) ls' r w := by
  subst hg
  exact zx_go_step ((zs_at hd rfl).trans (if_pos hk))
theorem zs_astore_n {k : Fin 4} {x : Nat} {ls' : List (Option Value)} (hd : decode (zm_cc j) pc = .ok (.astore_n k, 1)) (hk : (k : Nat) < ls.length) (hg : zx_s1 ls k (.ref x) = ls') : zx_go d j pc ls (.ref x :: r) w = zx_go d j (pc + 1) ls' r w := by
  subst hg
  exact zx_go_step ((zs_at hd rfl).trans (if_pos hk))
theorem zs_astore {k : Nat} {x : Nat} {ls' : List (Option Value)} (hd : decode (zm_cc j) pc = .ok (.astore k, 2)) (hk : (k : Nat) < ls.length) (hg : zx_s1 ls k (.ref x) = ls') : zx_go d j pc ls (.ref x :: r) w = zx_go d j (pc + 2) ls' r w := by
  subst hg
  exact zx_go_step ((zs_at hd rfl).trans (if_pos hk))
theorem zs_lstore_n {k : Fin 4} {x : Int64} {ls' : List (Option Value)} (hd : decode (zm_cc j) pc = .ok (.lstore_n k, 1)) (hk : (k : Nat) + 1 < ls.length) (hg : zx_s2 ls k (.long x) = ls') : zx_go d j pc ls (.long x :: r) w = zx_go d j (pc + 1) ls' r w := by
  subst hg
  exact zx_go_step ((zs_at hd rfl).trans (if_pos hk))
theorem zs_lstore {k : Nat} {x : Int64} {ls' : List (Option Value)} (hd : decode (zm_cc j) pc = .ok (.lstore k, 2)) (hk : (k : Nat) + 1 < ls.length) (hg : zx_s2 ls k (.long x) = ls') : zx_go d j pc ls (.long x :: r) w = zx_go d j (pc + 2) ls' r w := by
  subst hg
  exact zx_go_step ((zs_at hd rfl).trans (if_pos hk))
theorem zs_iinc {k : Nat} {n : Int} {x z : Int32} {ls' : List (Option Value)} (hd : decode (zm_cc j) pc = .ok (.iinc k n, 3)) (hk : zx_get ls k = some (.int x)) (hz : x + Int32.ofInt n = z) (hg : zx_s1 ls k (.int z) = ls') : zx_go d j pc ls r w = zx_go d j (pc + 3) ls' r w := by
  subst hg
  subst hz
  refine zx_go_step ((zs_at hd rfl).trans ?_)
  unfold zx_i
  dsimp only
  rw [hk]
theorem zs_br {c : Prop} [Decidable c] {b : Bool} {off : Int} {t : Nat} {e : zx_Ev} {i : Instr} {st : List Value} (hb : b = decide c) (ht : zx_to pc off = some t) (hs : zx_step j pc ls st w = zx_br pc off b ls r w) : zx_go d j pc ls st w = if c then zx_go d j t ls r w else zx_go d j (pc + 3) ls r w := by
  have h1 : zx_br pc off b ls r w = some (.inl (if b = true then t else pc + 3, ls, r, w)) := by
    unfold zx_br
    rw [ht]
  rw [zx_go_step (hs.trans h1), hb]
  by_cases h : c
  · rw [if_pos (decide_eq_true h), if_pos h]
  · rw [if_neg (by simpa using h), if_neg h]
theorem zs_if_eq {x : Int32} {off : Int} {t : Nat} (hd : decode (zm_cc j) pc = .ok (.ifCond .eq off, 3)) (ht : zx_to pc off = some t) : zx_go d j pc ls (.int x :: r) w = if x = 0 then zx_go d j t ls r w else zx_go d j (pc + 3) ls r w :=
  zs_br (e := .inr (.inl none)) (i := .nop) rfl ht ((zs_at hd rfl).trans rfl)
theorem zs_icmp_eq {x y : Int32} {off : Int} {t : Nat} (hd : decode (zm_cc j) pc = .ok (.if_icmp .eq off, 3)) (ht : zx_to pc off = some t) : zx_go d j pc ls (.int y :: .int x :: r) w = if x = y then zx_go d j t ls r w else zx_go d j (pc + 3) ls r w :=
  zs_br (e := .inr (.inl none)) (i := .nop) rfl ht ((zs_at hd rfl).trans rfl)
theorem zs_if_ne {x : Int32} {off : Int} {t : Nat} (hd : decode (zm_cc j) pc = .ok (.ifCond .ne off, 3)) (ht : zx_to pc off = some t) : zx_go d j pc ls (.int x :: r) w = if ¬ x = 0 then zx_go d j t ls r w else zx_go d j (pc + 3) ls r w :=
  zs_br (e := .inr (.inl none)) (i := .nop) rfl ht ((zs_at hd rfl).trans rfl)
theorem zs_icmp_ne {x y : Int32} {off : Int} {t : Nat} (hd : decode (zm_cc j) pc = .ok (.if_icmp .ne off, 3)) (ht : zx_to pc off = some t) : zx_go d j pc ls (.int y :: .int x :: r) w = if ¬ x = y then zx_go d j t ls r w else zx_go d j (pc + 3) ls r w :=
  zs_br (e := .inr (.inl none)) (i := .nop) rfl ht ((zs_at hd rfl).trans rfl)
theorem zs_if_lt {x : Int32} {off : Int} {t : Nat} (hd : decode (zm_cc j) pc = .ok (.ifCond .lt off, 3)) (ht : zx_to pc off = some t) : zx_go d j pc ls (.int x :: r) w = if x < 0 then zx_go d j t ls r w else zx_go d j (pc + 3) ls r w :=
  zs_br (e := .inr (.inl none)) (i := .nop) rfl ht ((zs_at hd rfl).trans rfl)
theorem zs_icmp_lt {x y : Int32} {off : Int} {t : Nat} (hd : decode (zm_cc j) pc = .ok (.if_icmp .lt off, 3)) (ht : zx_to pc off = some t) : zx_go d j pc ls (.int y :: .int x :: r) w = if x < y then zx_go d j t ls r w else zx_go d j (pc + 3) ls r w :=
  zs_br (e := .inr (.inl none)) (i := .nop) rfl ht ((zs_at hd rfl).trans rfl)
theorem zs_if_ge {x : Int32} {off : Int} {t : Nat} (hd : decode (zm_cc j) pc = .ok (.ifCond .ge off, 3)) (ht : zx_to pc off = some t) : zx_go d j pc ls (.int x :: r) w = if 0 ≤ x then zx_go d j t ls r w else zx_go d j (pc + 3) ls r w :=
  zs_br (e := .inr (.inl none)) (i := .nop) rfl ht ((zs_at hd rfl).trans rfl)
theorem zs_icmp_ge {x y : Int32} {off : Int} {t : Nat} (hd : decode (zm_cc j) pc = .ok (.if_icmp .ge off, 3)) (ht : zx_to pc off = some t) : zx_go d j pc ls (.int y :: .int x :: r) w = if y ≤ x then zx_go d j t ls r w else zx_go d j (pc + 3) ls r w :=
  zs_br (e := .inr (.inl none)) (i := .nop) rfl ht ((zs_at hd rfl).trans rfl)
theorem zs_if_gt {x : Int32} {off : Int} {t : Nat} (hd : decode (zm_cc j) pc = .ok (.ifCond .gt off, 3)) (ht : zx_to pc off = some t) : zx_go d j pc ls (.int x :: r) w = if 0 < x then zx_go d j t ls r w else zx_go d j (pc + 3) ls r w :=
  zs_br (e := .inr (.inl none)) (i := .nop) rfl ht ((zs_at hd rfl).trans rfl)
theorem zs_icmp_gt {x y : Int32} {off : Int} {t : Nat} (hd : decode (zm_cc j) pc = .ok (.if_icmp .gt off, 3)) (ht : zx_to pc off = some t) : zx_go d j pc ls (.int y :: .int x :: r) w = if y < x then zx_go d j t ls r w else zx_go d j (pc + 3) ls r w :=
  zs_br (e := .inr (.inl none)) (i := .nop) rfl ht ((zs_at hd rfl).trans rfl)
theorem zs_if_le {x : Int32} {off : Int} {t : Nat} (hd : decode (zm_cc j) pc = .ok (.ifCond .le off, 3)) (ht : zx_to pc off = some t) : zx_go d j pc ls (.int x :: r) w = if x ≤ 0 then zx_go d j t ls r w else zx_go d j (pc + 3) ls r w :=
  zs_br (e := .inr (.inl none)) (i := .nop) rfl ht ((zs_at hd rfl).trans rfl)
theorem zs_icmp_le {x y : Int32} {off : Int} {t : Nat} (hd : decode (zm_cc j) pc = .ok (.if_icmp .le off, 3)) (ht : zx_to pc off = some t) : zx_go d j pc ls (.int y :: .int x :: r) w = if x ≤ y then zx_go d j t ls r w else zx_go d j (pc + 3) ls r w :=
  zs_br (e := .inr (.inl none)) (i := .nop) rfl ht ((zs_at hd rfl).trans rfl)
theorem zs_goto {off : Int} {t : Nat} (hd : decode (zm_cc j) pc = .ok (.goto off, 3)) (ht : zx_to pc off = some t) : zx_go d j pc ls r w = zx_go d j t ls r w := by
  refine zx_go_step ((zs_at hd rfl).trans ?_)
  unfold zx_i
  dsimp only
  rw [ht]
theorem zs_table {dflt lo hi off : Int} {offs : Array Int} {len t : Nat} {x : Int32} (hd : decode (zm_cc j) pc = .ok (.tableswitch dflt lo hi offs, len)) (ho : (if x.toInt < lo ∨ hi < x.toInt then dflt else (offs[(x.toInt - lo).toNat]?).getD (-1 - (pc : Int))) = off) (ht : zx_to pc off = some t) : zx_go d j pc ls (.int x :: r) w = zx_go d j t ls r w := by
  refine zx_go_step ((zs_at hd rfl).trans ?_)
  unfold zx_i
  dsimp only
  rw [ho, ht]
theorem zs_lookup {dflt off : Int} {ps : Array (Int × Int)} {len t : Nat} {x : Int32} (hd : decode (zm_cc j) pc = .ok (.lookupswitch dflt ps, len)) (hp : (ps.toList.zip (ps.toList.drop 1)).all (fun (a, next) => a.1 < next.1) = true) (ho : Op.lookupswitch.offset ps.toList dflt x.toInt = off) (ht : zx_to pc off = some t) : zx_go d j pc ls (.int x :: r) w = zx_go d j t ls r w := by
  refine zx_go_step ((zs_at hd rfl).trans ?_)
  unfold zx_i
  dsimp only
  rw [if_pos hp, ho, ht]
theorem zs_ldc {n : Nat} {x : Int32} (hd : decode (zm_cc j) pc = .ok (.ldc n, 2)) (hl : zl_n (zm_o j) n = some x) : zx_go d j pc ls r w = zx_go d j (pc + 2) ls (.int x :: r) w := by
  refine zx_go_step ((zs_at hd rfl).trans ?_)
  unfold zx_i
  dsimp only
  rw [hl]
theorem zs_ldcw {n : Nat} {x : Int32} (hd : decode (zm_cc j) pc = .ok (.ldc_w n, 3)) (hl : zl_n (zm_o j) n = some x) : zx_go d j pc ls r w = zx_go d j (pc + 3) ls (.int x :: r) w := by
  refine zx_go_step ((zs_at hd rfl).trans ?_)
  unfold zx_i
  dsimp only
  rw [hl]
theorem zs_ldc2 {n : Nat} {x : Int64} (hd : decode (zm_cc j) pc = .ok (.ldc2_w n, 3)) (hl : zl_l (zm_o j) n = some x) : zx_go d j pc ls r w = zx_go d j (pc + 3) ls (.long x :: r) w := by
  refine zx_go_step ((zs_at hd rfl).trans ?_)
  unfold zx_i
  dsimp only
  rw [hl]
theorem zs_getstatic {n q : Nat} (hd : decode (zm_cc j) pc = .ok (.getstatic n, 3)) (hl : zl_s (zm_o j) n = some q) : zx_go d j pc ls r w = zx_go d j (pc + 3) ls (.ref q :: r) w := by
  refine zx_go_step ((zs_at hd rfl).trans ?_)
  unfold zx_i
  dsimp only
  rw [hl]
theorem zs_ireturn {x : Int32} (hd : decode (zm_cc j) pc = .ok (.ireturn, 1)) (hr : zx_ri (zm_r j) x = true) : zx_go d j pc ls [.int x] w = some (some (.int x), w) :=
  zx_go_ret ((zs_at hd rfl).trans (if_pos hr))
theorem zs_return (hd : decode (zm_cc j) pc = .ok (.return_, 1)) (hr : zm_r j = none) : zx_go d j pc ls [] w = some (none, w) :=
  zx_go_ret ((zs_at hd rfl).trans (if_pos hr))
end ZS
section ZW
variable {d j pc n : Nat} {s : Nat × Nat} {ls : List (Option Value)} {r : List Value} {K : Nat → zx_K} {σ : Nat → Nat → Int32} {τ : Nat → Nat → Int64} {ρ : Nat → Nat → Option Nat}
theorem zs_getI {i c k q : Nat} (hd : decode (zm_cc j) pc = .ok (.getfield i, 3)) (hl : zl_f (zm_o j) i = some (c, k)) (ht : zt_ty c k = .int) (hK : K q = .inl c) (hq : q < n) : zx_go d j pc ls (.ref q :: r) ((n, s), K, σ, τ, ρ) = zx_go d j (pc + 3) ls (.int (σ q k) :: r) ((n, s), K, σ, τ, ρ) := by
  refine zx_go_step ((zs_at hd rfl).trans ?_)
  unfold zx_i
  dsimp only
  rw [hl]
  dsimp only
  rw [if_pos ⟨hK, hq⟩, ht]
  rfl
theorem zs_getZ {i c k q : Nat} (hd : decode (zm_cc j) pc = .ok (.getfield i, 3)) (hl : zl_f (zm_o j) i = some (c, k)) (ht : zt_ty c k = .boolean) (hK : K q = .inl c) (hq : q < n) : zx_go d j pc ls (.ref q :: r) ((n, s), K, σ, τ, ρ) = zx_go d j (pc + 3) ls (.int (σ q k) :: r) ((n, s), K, σ, τ, ρ) := by
  refine zx_go_step ((zs_at hd rfl).trans ?_)
  unfold zx_i
  dsimp only
  rw [hl]
  dsimp only
  rw [if_pos ⟨hK, hq⟩, ht]
  rfl
theorem zs_getL {i c k q : Nat} (hd : decode (zm_cc j) pc = .ok (.getfield i, 3)) (hl : zl_f (zm_o j) i = some (c, k)) (ht : zt_ty c k = .long) (hK : K q = .inl c) (hq : q < n) : zx_go d j pc ls (.ref q :: r) ((n, s), K, σ, τ, ρ) = zx_go d j (pc + 3) ls (.long (τ q k) :: r) ((n, s), K, σ, τ, ρ) := by
  refine zx_go_step ((zs_at hd rfl).trans ?_)
  unfold zx_i
  dsimp only
  rw [hl]
  dsimp only
  rw [if_pos ⟨hK, hq⟩, ht]
  rfl
def zx_isR (ty : FieldType) : Bool := match ty with
  | .object _ => true
  | .array _ => true
  | _ => false
theorem zs_getR {i c k q p : Nat} (hd : decode (zm_cc j) pc = .ok (.getfield i, 3)) (hl : zl_f (zm_o j) i = some (c, k)) (ht : zx_isR (zt_ty c k) = true) (hK : K q = .inl c) (hq : q < n) (hp : ρ q k = some p) : zx_go d j pc ls (.ref q :: r) ((n, s), K, σ, τ, ρ) = zx_go d j (pc + 3) ls (.ref p :: r) ((n, s), K, σ, τ, ρ) := by
  refine zx_go_step ((zs_at hd rfl).trans ?_)
  unfold zx_i
  dsimp only
  rw [hl]
  dsimp only
  rw [if_pos ⟨hK, hq⟩]
  have e : zx_val ((n, s), K, σ, τ, ρ) (zt_ty c k) q k = .ref p := by
    cases hty : zt_ty c k <;> rw [hty] at ht <;> first | (simp [zx_isR] at ht; done) | (simp [zx_val, hp, va_rf])
  rw [e]
theorem zs_putI {i c k q : Nat} {x : Int32} (hd : decode (zm_cc j) pc = .ok (.putfield i, 3)) (hl : zl_f (zm_o j) i = some (c, k)) (ht : zt_ty c k = .int) (hm : zx_mayPut j c k = true) (hK : K q = .inl c) (hq : q < n) : zx_go d j pc ls (.int x :: .ref q :: r) ((n, s), K, σ, τ, ρ) = zx_go d j (pc + 3) ls r ((n, s), K, zx_up σ q k x, τ, ρ) := by
  refine zx_go_step ((zs_at hd rfl).trans ?_)
  unfold zx_i
  dsimp only
  rw [hl]
  dsimp only
  rw [if_pos ⟨⟨hK, hq⟩, by rw [ht]; exact rfl, hm⟩]
  rfl
theorem zs_putZ {i c k q : Nat} {x : Int32} (hd : decode (zm_cc j) pc = .ok (.putfield i, 3)) (hl : zl_f (zm_o j) i = some (c, k)) (ht : zt_ty c k = .boolean) (hm : zx_mayPut j c k = true) (hK : K q = .inl c) (hq : q < n) (hx : (x == 0 || x == 1) = true) : zx_go d j pc ls (.int x :: .ref q :: r) ((n, s), K, σ, τ, ρ) = zx_go d j (pc + 3) ls r ((n, s), K, zx_up σ q k x, τ, ρ) := by
  refine zx_go_step ((zs_at hd rfl).trans ?_)
  unfold zx_i
  dsimp only
  rw [hl]
  dsimp only
  rw [if_pos ⟨⟨hK, hq⟩, by rw [ht]; exact hx, hm⟩]
  rfl
theorem zs_putL {i c k q : Nat} {x : Int64} (hd : decode (zm_cc j) pc = .ok (.putfield i, 3)) (hl : zl_f (zm_o j) i = some (c, k)) (ht : zt_ty c k = .long) (hm : zx_mayPut j c k = true) (hK : K q = .inl c) (hq : q < n) : zx_go d j pc ls (.long x :: .ref q :: r) ((n, s), K, σ, τ, ρ) = zx_go d j (pc + 3) ls r ((n, s), K, σ, zx_up τ q k x, ρ) := by
  refine zx_go_step ((zs_at hd rfl).trans ?_)
  unfold zx_i
  dsimp only
  rw [hl]
  dsimp only
  rw [if_pos ⟨⟨hK, hq⟩, by rw [ht]; exact rfl, hm⟩]
  rfl
theorem zs_putR {i c k q p : Nat} (hd : decode (zm_cc j) pc = .ok (.putfield i, 3)) (hl : zl_f (zm_o j) i = some (c, k)) (ht : zx_fit (zt_ty c k) (.ref p) = true) (hm : zx_mayPut j c k = true) (hK : K q = .inl c) (hq : q < n) : zx_go d j pc ls (.ref p :: .ref q :: r) ((n, s), K, σ, τ, ρ) = zx_go d j (pc + 3) ls r ((n, s), K, σ, τ, zx_up ρ q k (some p)) := by
  refine zx_go_step ((zs_at hd rfl).trans ?_)
  unfold zx_i
  dsimp only
  rw [hl]
  dsimp only
  rw [if_pos ⟨⟨hK, hq⟩, ht, hm⟩]
  rfl
theorem zs_arraylength {q m : Nat} {ty : FieldType} {z : Int32} (hd : decode (zm_cc j) pc = .ok (.arraylength, 1)) (hK : K q = .inr (ty, m)) (hq : q < n) (hz : Int32.ofNat m = z) : zx_go d j pc ls (.ref q :: r) ((n, s), K, σ, τ, ρ) = zx_go d j (pc + 1) ls (.int z :: r) ((n, s), K, σ, τ, ρ) := by
  subst hz
  refine zx_go_step ((zs_at hd rfl).trans ?_)
  unfold zx_i
  dsimp only
  rw [hK]
  dsimp only
  rw [if_pos hq]
theorem zs_iaload {q m : Nat} {i : Int32} (hd : decode (zm_cc j) pc = .ok (.iaload, 1)) (hK : K q = .inr (.int, m)) (hq : q < n) (hi : zx_ins i m = true) : zx_go d j pc ls (.int i :: .ref q :: r) ((n, s), K, σ, τ, ρ) = zx_go d j (pc + 1) ls (.int (σ q i.toNatClampNeg) :: r) ((n, s), K, σ, τ, ρ) := by
  refine zx_go_step ((zs_at hd rfl).trans ?_)
  unfold zx_i
  dsimp only
  rw [hK]
  dsimp only
  rw [if_pos ⟨hq, hi⟩]
theorem zs_laload {q m : Nat} {i : Int32} (hd : decode (zm_cc j) pc = .ok (.laload, 1)) (hK : K q = .inr (.long, m)) (hq : q < n) (hi : zx_ins i m = true) : zx_go d j pc ls (.int i :: .ref q :: r) ((n, s), K, σ, τ, ρ) = zx_go d j (pc + 1) ls (.long (τ q i.toNatClampNeg) :: r) ((n, s), K, σ, τ, ρ) := by
  refine zx_go_step ((zs_at hd rfl).trans ?_)
  unfold zx_i
  dsimp only
  rw [hK]
  dsimp only
  rw [if_pos ⟨hq, hi⟩]
theorem zs_baload {q m : Nat} {i : Int32} (hd : decode (zm_cc j) pc = .ok (.baload, 1)) (hK : K q = .inr (.byte, m)) (hq : q < n) (hi : zx_ins i m = true) : zx_go d j pc ls (.int i :: .ref q :: r) ((n, s), K, σ, τ, ρ) = zx_go d j (pc + 1) ls (.int (σ q i.toNatClampNeg) :: r) ((n, s), K, σ, τ, ρ) := by
  refine zx_go_step ((zs_at hd rfl).trans ?_)
  unfold zx_i
  dsimp only
  rw [hK]
  dsimp only
  rw [if_pos ⟨hq, hi⟩]
theorem zs_zaload {q m : Nat} {i : Int32} (hd : decode (zm_cc j) pc = .ok (.baload, 1)) (hK : K q = .inr (.boolean, m)) (hq : q < n) (hi : zx_ins i m = true) : zx_go d j pc ls (.int i :: .ref q :: r) ((n, s), K, σ, τ, ρ) = zx_go d j (pc + 1) ls (.int (σ q i.toNatClampNeg) :: r) ((n, s), K, σ, τ, ρ) := by
  refine zx_go_step ((zs_at hd rfl).trans ?_)
  unfold zx_i
  dsimp only
  rw [hK]
  dsimp only
  rw [if_pos ⟨hq, hi⟩]
theorem zs_iastore {q m : Nat} {i : Int32} {x : Int32} (hd : decode (zm_cc j) pc = .ok (.iastore, 1)) (hK : K q = .inr (.int, m)) (hq : 2 ≤ q ∧ q < n) (hi : zx_ins i m = true) : zx_go d j pc ls (.int x :: .int i :: .ref q :: r) ((n, s), K, σ, τ, ρ) = zx_go d j (pc + 1) ls r ((n, s), K, zx_up σ q i.toNatClampNeg x, τ, ρ) := by
  refine zx_go_step ((zs_at hd rfl).trans ?_)
  unfold zx_i
  dsimp only
  rw [hK]
  dsimp only
  rw [if_pos ⟨hq, hi⟩]
  rfl
theorem zs_lastore {q m : Nat} {i : Int32} {x : Int64} (hd : decode (zm_cc j) pc = .ok (.lastore, 1)) (hK : K q = .inr (.long, m)) (hq : 2 ≤ q ∧ q < n) (hi : zx_ins i m = true) : zx_go d j pc ls (.long x :: .int i :: .ref q :: r) ((n, s), K, σ, τ, ρ) = zx_go d j (pc + 1) ls r ((n, s), K, σ, zx_up τ q i.toNatClampNeg x, ρ) := by
  refine zx_go_step ((zs_at hd rfl).trans ?_)
  unfold zx_i
  dsimp only
  rw [hK]
  dsimp only
  rw [if_pos ⟨hq, hi⟩]
  rfl
theorem zs_bastore {q m : Nat} {i : Int32} {x : Int32} (hd : decode (zm_cc j) pc = .ok (.bastore, 1)) (hK : K q = .inr (.byte, m)) (hq : 2 ≤ q ∧ q < n) (hi : zx_ins i m = true) : zx_go d j pc ls (.int x :: .int i :: .ref q :: r) ((n, s), K, σ, τ, ρ) = zx_go d j (pc + 1) ls r ((n, s), K, zx_up σ q i.toNatClampNeg x.toInt8.toInt32, τ, ρ) := by
  refine zx_go_step ((zs_at hd rfl).trans ?_)
  unfold zx_i
  dsimp only
  rw [hK]
  dsimp only
  rw [if_pos ⟨hq, hi⟩]
  rfl
theorem zs_zastore {q m : Nat} {i : Int32} {x : Int32} (hd : decode (zm_cc j) pc = .ok (.bastore, 1)) (hK : K q = .inr (.boolean, m)) (hq : 2 ≤ q ∧ q < n) (hi : zx_ins i m = true) : zx_go d j pc ls (.int x :: .int i :: .ref q :: r) ((n, s), K, σ, τ, ρ) = zx_go d j (pc + 1) ls r ((n, s), K, zx_up σ q i.toNatClampNeg (x &&& 1), τ, ρ) := by
  refine zx_go_step ((zs_at hd rfl).trans ?_)
  unfold zx_i
  dsimp only
  rw [hK]
  dsimp only
  rw [if_pos ⟨hq, hi⟩]
  rfl
/-- cells that are not yet made hold nothing -/
def zx_fr (n : Nat) (σ : Nat → Nat → Int32) (τ : Nat → Nat → Int64) (ρ : Nat → Nat → Option Nat) : Prop := ∀ q i, n ≤ q → σ q i = 0 ∧ τ q i = 0 ∧ ρ q i = none
theorem zx_fr.up {n p i : Nat} {x : Int32} {σ : Nat → Nat → Int32} {τ : Nat → Nat → Int64} {ρ : Nat → Nat → Option Nat} (h : zx_fr n σ τ ρ) (hp : p < n) : zx_fr n (zx_up σ p i x) τ ρ := fun q j hq => ⟨by rw [zx_up_ne (by omega)]; exact (h q j hq).1, (h q j hq).2⟩
theorem zx_fr.upR {n p i : Nat} {x : Option Nat} {σ : Nat → Nat → Int32} {τ : Nat → Nat → Int64} {ρ : Nat → Nat → Option Nat} (h : zx_fr n σ τ ρ) (hp : p < n) : zx_fr n σ τ (zx_up ρ p i x) := fun q j hq => ⟨(h q j hq).1, (h q j hq).2.1, by rw [zx_up_ne (by omega)]; exact (h q j hq).2.2⟩
theorem zx_fr.le {n m : Nat} {σ : Nat → Nat → Int32} {τ : Nat → Nat → Int64} {ρ : Nat → Nat → Option Nat} (h : zx_fr n σ τ ρ) (hm : n ≤ m) : zx_fr m σ τ ρ := fun q j hq => h q j (Nat.le_trans hm hq)
/-- the first n cells of a row of kinds -/
def zx_pk (Z : Nat → zx_K) (n : Nat) : Nat → zx_K := fun q => if q < n then Z q else .inl 13
theorem zx_new_pk {Z : Nat → zx_K} {n a b m : Nat} {k : zx_K} (hk : Z n = k) (hf : zx_fr n σ τ ρ) : zx_new ((n, a, b), zx_pk Z n, σ, τ, ρ) k m = ((n + 1, a + 1, b + m), zx_pk Z (n + 1), σ, τ, ρ) := by
  unfold zx_new
  subst hk
  dsimp only
  congr 1
  congr 1
  · funext q
    unfold zx_pk
    by_cases e : q = n
    · subst e
      rw [if_pos rfl, if_pos (by omega)]
    · rw [if_neg e]
      by_cases l : q < n
      · rw [if_pos l, if_pos (by omega)]
      · rw [if_neg l, if_neg (by omega)]
  · congr 1
    · funext q i
      by_cases e : q = n
      · subst e
        rw [if_pos rfl, (hf q i (Nat.le_refl _)).1]
      · rw [if_neg e]
    · congr 1
      · funext q i
        by_cases e : q = n
        · subst e
          rw [if_pos rfl, (hf q i (Nat.le_refl _)).2.1]
        · rw [if_neg e]
      · funext q i
        by_cases e : q = n
        · subst e
          rw [if_pos rfl, (hf q i (Nat.le_refl _)).2.2]
        · rw [if_neg e]
theorem zs_new {Z : Nat → zx_K} {i c m a b : Nat} (h9 : n < 119) (hd : decode (zm_cc j) pc = .ok (.new i, 3)) (hl : zl_c (zm_o j) i = some c) (hz : Z n = .inl c) (hm : zt_n c = m) (hf : zx_fr n σ τ ρ) : zx_go d j pc ls r ((n, a, b), zx_pk Z n, σ, τ, ρ) = zx_go d j (pc + 3) ls (.ref n :: r) ((n + 1, a + 1, b + m), zx_pk Z (n + 1), σ, τ, ρ) := by
  refine zx_go_step ((zs_at hd rfl).trans ?_)
  unfold zx_i
  dsimp only
  rw [hl]
  dsimp only
  rw [if_pos h9, zx_new_pk hz hf, hm]
theorem zs_newarray {Z : Nat → zx_K} {t : ArrayType} {ty : FieldType} {x : Int32} {m a b : Nat} (h9 : n < 119) (hd : decode (zm_cc j) pc = .ok (.newarray t, 2)) (ht : newarray.typeOf t = ty) (hx : (¬ x < 0 ∧ x.toNatClampNeg * componentBytes (newarray.typeOf t) ≤ 536870912) ∧ zx_ty (newarray.typeOf t) = true) (hm : x.toNatClampNeg = m) (hz : Z n = .inr (ty, m)) (hf : zx_fr n σ τ ρ) : zx_go d j pc ls (.int x :: r) ((n, a, b), zx_pk Z n, σ, τ, ρ) = zx_go d j (pc + 2) ls (.ref n :: r) ((n + 1, a + 1, b + m), zx_pk Z (n + 1), σ, τ, ρ) := by
  refine zx_go_step ((zs_at hd rfl).trans ?_)
  unfold zx_i
  dsimp only
  rw [if_pos ⟨hx, h9⟩, ht, hm, zx_new_pk hz hf]
end ZW
/-- calls -/
theorem zs_inv {j kd i pc k : Nat} {st as rest : List Value} {w : zx_W} (ht : zx_tg (zm_o j) i = some k) (hk : zx_ck k = kd) (hn : zx_na k = as.length) (hst : st = as.reverse ++ rest) (hc : (rest.map fun v => v.category).sum ≤ 8) (hr : zx_rcb kd k as w = true) : zx_inv j kd i pc st w = some (.inr (.inr (k, as, rest, pc + 3))) := by
  have e1 : st.take (zx_na k) = as.reverse := by
    rw [hst, hn, ← List.length_reverse, List.take_left']
    rfl
  have e2 : st.drop (zx_na k) = rest := by
    rw [hst, hn, ← List.length_reverse, List.drop_left']
    rfl
  unfold zx_inv
  rw [ht]
  dsimp only
  rw [e1, e2, List.reverse_reverse, if_pos ⟨⟨hk, by rw [hn, hst]; simp⟩, hc, hr⟩]
theorem zs_callV {d e j pc i k : Nat} {ls : List (Option Value)} {st as rest : List Value} {w w2 : zx_W} {u : Option Value} (hd : decode (zm_cc j) pc = .ok (.invokevirtual i, 3)) (ht : zx_tg (zm_o j) i = some k) (hk : zx_ck k = 0) (hkn : k < 264) (hn : zx_na k = as.length) (hst : st = as.reverse ++ rest) (hc : (rest.map fun v => v.category).sum ≤ 8) (hr : zx_rcb 0 k as w = true) (ha : (zx_sl as).length ≤ zm_L k) (he : e ≤ d) (hu : zx_go e k 0 (zx_entry k as) [] w = some (u, w2)) : zx_go (d + 1) j pc ls st w = zx_go (d + 1) j (pc + 3) ls (u.toList ++ rest) w2 :=
  zx_go_call ((zs_at hd rfl).trans (zs_inv ht hk hn hst hc hr)) hkn ha he hu
theorem zs_callI {d e j pc i k : Nat} {ls : List (Option Value)} {st as rest : List Value} {w w2 : zx_W} {u : Option Value} (hd : decode (zm_cc j) pc = .ok (.invokespecial i, 3)) (ht : zx_tg (zm_o j) i = some k) (hk : zx_ck k = 1) (hkn : k < 264) (hn : zx_na k = as.length) (hst : st = as.reverse ++ rest) (hc : (rest.map fun v => v.category).sum ≤ 8) (hr : zx_rcb 1 k as w = true) (ha : (zx_sl as).length ≤ zm_L k) (he : e ≤ d) (hu : zx_go e k 0 (zx_entry k as) [] w = some (u, w2)) : zx_go (d + 1) j pc ls st w = zx_go (d + 1) j (pc + 3) ls (u.toList ++ rest) w2 :=
  zx_go_call ((zs_at hd rfl).trans (zs_inv ht hk hn hst hc hr)) hkn ha he hu
theorem zs_callS {d e j pc i k : Nat} {ls : List (Option Value)} {st as rest : List Value} {w w2 : zx_W} {u : Option Value} (hd : decode (zm_cc j) pc = .ok (.invokestatic i, 3)) (ht : zx_tg (zm_o j) i = some k) (hk : zx_ck k = 2) (hkn : k < 264) (hn : zx_na k = as.length) (hst : st = as.reverse ++ rest) (hc : (rest.map fun v => v.category).sum ≤ 8) (hr : zx_rcb 2 k as w = true) (ha : (zx_sl as).length ≤ zm_L k) (he : e ≤ d) (hu : zx_go e k 0 (zx_entry k as) [] w = some (u, w2)) : zx_go (d + 1) j pc ls st w = zx_go (d + 1) j (pc + 3) ls (u.toList ++ rest) w2 :=
  zx_go_call ((zs_at hd rfl).trans (zs_inv ht hk hn hst hc hr)) hkn ha he hu
theorem zs_obj {d j pc i q : Nat} {ls : List (Option Value)} {r : List Value} {w : zx_W} (hd : decode (zm_cc j) pc = .ok (.invokespecial i, 3)) (ht : zx_tg (zm_o j) i = some 1001) (hc : (r.map fun v => v.category).sum ≤ 8) : zx_go (d + 1) j pc ls (.ref q :: r) w = zx_go (d + 1) j (pc + 3) ls r w :=
  zx_go_nat ((zs_at hd rfl).trans (zs_inv (as := [.ref q]) ht (by decide) rfl rfl hc rfl)) (by decide) (by decide) rfl
theorem zs_max {d j pc i : Nat} {x y : Int32} {ls : List (Option Value)} {r : List Value} {w : zx_W} (hd : decode (zm_cc j) pc = .ok (.invokestatic i, 3)) (ht : zx_tg (zm_o j) i = some 1002) (hc : (r.map fun v => v.category).sum ≤ 8) : zx_go (d + 1) j pc ls (.int y :: .int x :: r) w = zx_go (d + 1) j (pc + 3) ls (.int (if x < y then y else x) :: r) w :=
  zx_go_nat ((zs_at hd rfl).trans (zs_inv (as := [.int x, .int y]) ht (by decide) rfl rfl hc rfl)) (by decide) (by decide) rfl
theorem zs_copy {d j pc i a b n0 n1 : Nat} {sp dp m : Int32} {ls : List (Option Value)} {r : List Value} {n : Nat} {s : Nat × Nat} {K : Nat → zx_K} {σ : Nat → Nat → Int32} {τ : Nat → Nat → Int64} {ρ : Nat → Nat → Option Nat} (hd : decode (zm_cc j) pc = .ok (.invokestatic i, 3)) (ht : zx_tg (zm_o j) i = some 1000) (hc : (r.map fun v => v.category).sum ≤ 8) (hKa : K a = .inr (.int, n0)) (hKb : K b = .inr (.int, n1)) (hq : ((2 ≤ a ∧ a < n) ∧ (2 ≤ b ∧ b < n)) ∧ ((¬ sp < 0 ∧ ¬ dp < 0 ∧ ¬ m < 0) ∧ sp.toNatClampNeg + m.toNatClampNeg ≤ n0 ∧ dp.toNatClampNeg + m.toNatClampNeg ≤ n1)) : zx_go (d + 1) j pc ls (.int m :: .int dp :: .ref b :: .int sp :: .ref a :: r) ((n, s), K, σ, τ, ρ) = zx_go (d + 1) j (pc + 3) ls r ((n, s), K, (fun q i => if q = b then va_cpy (σ a) (σ b) sp.toNatClampNeg dp.toNatClampNeg m.toNatClampNeg i else σ q i), τ, ρ) := by
  refine zx_go_nat (k := 1000) (as := [.ref a, .int sp, .ref b, .int dp, .int m]) (rest := r) (u := none) ((zs_at hd rfl).trans (zs_inv (as := [.ref a, .int sp, .ref b, .int dp, .int m]) ht (by decide) rfl rfl hc rfl)) (by decide) (by decide) ?_
  unfold zx_nat
  rw [if_neg (by decide), if_neg (by decide), if_pos rfl]
  dsimp only
  rw [hKa, hKb]
  dsimp only
  rw [if_pos hq]
  rfl
