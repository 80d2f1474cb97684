/-! EACH INSTRUCTION'S STEP IS SOUND -/
section XF
variable {j d : Nat} {p : Program} {R : Room} {s : State} {m : MethodId} {args : Array Value} {meth : Method} {c : Code} {D : va_G} {tc : FieldType → ClassId}
theorem zx_X.ml (X : zx_X j d p R s m args meth c D tc) : c.maxLocals = zm_L j := X.2.2.1
theorem zx_X.ret (X : zx_X j d p R s m args meth c D tc) : meth.sig.returnType = zm_r j := X.2.2.2.1
theorem zx_X.lk (X : zx_X j d p R s m args meth c D tc) : meth.locks = false := X.2.2.2.2.1
theorem zx_X.ow (X : zx_X j d p R s m args meth c D tc) : s.vm.findClass (zm_own j) = some m.cls := X.2.2.2.2.2.1
theorem zx_X.nm (X : zx_X j d p R s m args meth c D tc) : meth.name = (zm_y j).name := X.2.2.2.2.2.2.1
theorem zx_X.ts (X : zx_X j d p R s m args meth c D tc) : ∀ w ∈ zm_ws, w.before args s = true := X.2.2.2.2.2.2.2.1
theorem zx_X.ne (X : zx_X j d p R s m args meth c D tc) : ∀ w ∈ zm_nest, va_Nw w s := X.2.2.2.2.2.2.2.2.1
theorem zx_X.K (X : zx_X j d p R s m args meth c D tc) : va_K D vwCl (zx_tys tc) s := X.2.2.2.2.2.2.2.2.2.1
theorem zx_X.fr (X : zx_X j d p R s m args meth c D tc) : d ≤ R.frames := X.2.2.2.2.2.2.2.2.2.2.1
theorem zx_X.lo (X : zx_X j d p R s m args meth c D tc) : d * 64 + 40 ≤ R.locals := X.2.2.2.2.2.2.2.2.2.2.2
end XF
theorem zx_arrW (ty : FieldType) (h : zx_ty ty = true) : Cond.arrayClass ty ∈ zm_ws := by
  cases ty with
  | int => exact zr_1 140 rfl rfl
  | long => exact zr_1 172 rfl rfl
  | byte => exact zr_1 139 rfl rfl
  | boolean => exact zr_2 105 rfl rfl
  | _ => simp [zx_ty] at h
theorem zx_v_def (ad : Nat → Nat) (ty : FieldType) : zx_v ad (defaultValue ty) = defaultValue ty := by cases ty <;> rfl
/-- a field's new row of values -/
theorem zx_updF {w : zx_W} {ad : Nat → Nat} {c q k : Nat} {x : Value} (h : zx_kin (zt_ty c k) x) (i : Nat) : updV (fun k => zx_v ad (zx_val w (zt_ty c k) q k)) k (zx_v ad x) i = zx_v ad (zx_val (zx_set w q k x) (zt_ty c i) q i) := by
  unfold updV
  by_cases e : i = k
  · subst e
    rw [if_pos rfl, zx_val_set h]
  · rw [if_neg e, zx_val_ne (Or.inr e)]
theorem zx_updA {w : zx_W} {ad : Nat → Nat} {q k : Nat} {ty : FieldType} {x : Value} (h : zx_kin ty x) : updV (fun i => zx_v ad (zx_val w ty q i)) k (zx_v ad x) = fun i => zx_v ad (zx_val (zx_set w q k x) ty q i) := by
  funext i
  unfold updV
  by_cases e : i = k
  · subst e
    rw [if_pos rfl, zx_val_set h]
  · rw [if_neg e, zx_val_ne (Or.inr e)]
theorem zx_to_at {pc t : Nat} {off : Int} (h : zx_to pc off = some t) : (pc : Int) + off = (t : Int) := by
  unfold zx_to at h
  split at h
  · rename_i h0
    cases h
    omega
  · cases h
section OPS
variable {d j pc : Nat} {ls : List (Option Value)} {r : List Value} {w : zx_W} {v : Option Value} {w1 : zx_W}
theorem zx_o_iadd {y : Int32} {x : Int32} (hd : decode (zm_cc j) pc = .ok (.iadd, 1)) (h : zx_E d j (pc + 1) ls (.int (x + y) :: r) w v w1) : zx_E d j pc ls (.int y :: .int x :: r) w v w1 :=
  zx_pure (fun X hZ hR hL hS hc hs k => lv_iadd X.1 X.2.1 hd k) h
theorem zx_o_isub {y : Int32} {x : Int32} (hd : decode (zm_cc j) pc = .ok (.isub, 1)) (h : zx_E d j (pc + 1) ls (.int (x - y) :: r) w v w1) : zx_E d j pc ls (.int y :: .int x :: r) w v w1 :=
  zx_pure (fun X hZ hR hL hS hc hs k => lv_isub X.1 X.2.1 hd k) h
theorem zx_o_imul {y : Int32} {x : Int32} (hd : decode (zm_cc j) pc = .ok (.imul, 1)) (h : zx_E d j (pc + 1) ls (.int (x * y) :: r) w v w1) : zx_E d j pc ls (.int y :: .int x :: r) w v w1 :=
  zx_pure (fun X hZ hR hL hS hc hs k => lv_imul X.1 X.2.1 hd k) h
theorem zx_o_iand {y : Int32} {x : Int32} (hd : decode (zm_cc j) pc = .ok (.iand, 1)) (h : zx_E d j (pc + 1) ls (.int (x &&& y) :: r) w v w1) : zx_E d j pc ls (.int y :: .int x :: r) w v w1 :=
  zx_pure (fun X hZ hR hL hS hc hs k => lv_iand X.1 X.2.1 hd k) h
theorem zx_o_ior {y : Int32} {x : Int32} (hd : decode (zm_cc j) pc = .ok (.ior, 1)) (h : zx_E d j (pc + 1) ls (.int (x ||| y) :: r) w v w1) : zx_E d j pc ls (.int y :: .int x :: r) w v w1 :=
  zx_pure (fun X hZ hR hL hS hc hs k => lv_ior X.1 X.2.1 hd k) h
theorem zx_o_ixor {y : Int32} {x : Int32} (hd : decode (zm_cc j) pc = .ok (.ixor, 1)) (h : zx_E d j (pc + 1) ls (.int (x ^^^ y) :: r) w v w1) : zx_E d j pc ls (.int y :: .int x :: r) w v w1 :=
  zx_pure (fun X hZ hR hL hS hc hs k => lv_ixor X.1 X.2.1 hd k) h
theorem zx_o_idiv {y : Int32} {x : Int32} (hg : ¬ y = 0) (hd : decode (zm_cc j) pc = .ok (.idiv, 1)) (h : zx_E d j (pc + 1) ls (.int (x / y) :: r) w v w1) : zx_E d j pc ls (.int y :: .int x :: r) w v w1 :=
  zx_pure (fun X hZ hR hL hS hc hs k => lv_idiv X.1 X.2.1 hd hg k) h
theorem zx_o_irem {y : Int32} {x : Int32} (hg : ¬ y = 0) (hd : decode (zm_cc j) pc = .ok (.irem, 1)) (h : zx_E d j (pc + 1) ls (.int (x - x / y * y) :: r) w v w1) : zx_E d j pc ls (.int y :: .int x :: r) w v w1 :=
  zx_pure (fun X hZ hR hL hS hc hs k => lv_irem X.1 X.2.1 hd hg k) h
theorem zx_o_ishl {y : Int32} {x : Int32} (hd : decode (zm_cc j) pc = .ok (.ishl, 1)) (h : zx_E d j (pc + 1) ls (.int (x <<< (y &&& 31)) :: r) w v w1) : zx_E d j pc ls (.int y :: .int x :: r) w v w1 :=
  zx_pure (fun X hZ hR hL hS hc hs k => lv_ishl X.1 X.2.1 hd k) h
theorem zx_o_ishr {y : Int32} {x : Int32} (hd : decode (zm_cc j) pc = .ok (.ishr, 1)) (h : zx_E d j (pc + 1) ls (.int (x >>> (y &&& 31)) :: r) w v w1) : zx_E d j pc ls (.int y :: .int x :: r) w v w1 :=
  zx_pure (fun X hZ hR hL hS hc hs k => lv_ishr X.1 X.2.1 hd k) h
theorem zx_o_iushr {y : Int32} {x : Int32} (hd : decode (zm_cc j) pc = .ok (.iushr, 1)) (h : zx_E d j (pc + 1) ls (.int (x.toUInt32 >>> (y.toUInt32 &&& Int32.toUInt32 31)).toInt32 :: r) w v w1) : zx_E d j pc ls (.int y :: .int x :: r) w v w1 :=
  zx_pure (fun X hZ hR hL hS hc hs k => lv_iushr X.1 X.2.1 hd rfl k) h
theorem zx_o_ineg {x : Int32} (hd : decode (zm_cc j) pc = .ok (.ineg, 1)) (h : zx_E d j (pc + 1) ls (.int (-x) :: r) w v w1) : zx_E d j pc ls (.int x :: r) w v w1 :=
  zx_pure (fun X hZ hR hL hS hc hs k => lv_ineg X.1 X.2.1 hd k) h
theorem zx_o_ladd {y : Int64} {x : Int64} (hd : decode (zm_cc j) pc = .ok (.ladd, 1)) (h : zx_E d j (pc + 1) ls (.long (x + y) :: r) w v w1) : zx_E d j pc ls (.long y :: .long x :: r) w v w1 :=
  zx_pure (fun X hZ hR hL hS hc hs k => lv_ladd X.1 X.2.1 hd k) h
theorem zx_o_lsub {y : Int64} {x : Int64} (hd : decode (zm_cc j) pc = .ok (.lsub, 1)) (h : zx_E d j (pc + 1) ls (.long (x - y) :: r) w v w1) : zx_E d j pc ls (.long y :: .long x :: r) w v w1 :=
  zx_pure (fun X hZ hR hL hS hc hs k => lv_lsub X.1 X.2.1 hd k) h
theorem zx_o_lmul {y : Int64} {x : Int64} (hd : decode (zm_cc j) pc = .ok (.lmul, 1)) (h : zx_E d j (pc + 1) ls (.long (x * y) :: r) w v w1) : zx_E d j pc ls (.long y :: .long x :: r) w v w1 :=
  zx_pure (fun X hZ hR hL hS hc hs k => lv_lmul X.1 X.2.1 hd k) h
theorem zx_o_land {y : Int64} {x : Int64} (hd : decode (zm_cc j) pc = .ok (.land, 1)) (h : zx_E d j (pc + 1) ls (.long (x &&& y) :: r) w v w1) : zx_E d j pc ls (.long y :: .long x :: r) w v w1 :=
  zx_pure (fun X hZ hR hL hS hc hs k => lv_land X.1 X.2.1 hd k) h
theorem zx_o_lor {y : Int64} {x : Int64} (hd : decode (zm_cc j) pc = .ok (.lor, 1)) (h : zx_E d j (pc + 1) ls (.long (x ||| y) :: r) w v w1) : zx_E d j pc ls (.long y :: .long x :: r) w v w1 :=
  zx_pure (fun X hZ hR hL hS hc hs k => lv_lor X.1 X.2.1 hd k) h
theorem zx_o_lxor {y : Int64} {x : Int64} (hd : decode (zm_cc j) pc = .ok (.lxor, 1)) (h : zx_E d j (pc + 1) ls (.long (x ^^^ y) :: r) w v w1) : zx_E d j pc ls (.long y :: .long x :: r) w v w1 :=
  zx_pure (fun X hZ hR hL hS hc hs k => lv_lxor X.1 X.2.1 hd k) h
theorem zx_o_ldiv {y : Int64} {x : Int64} (hg : ¬ y = 0) (hd : decode (zm_cc j) pc = .ok (.ldiv, 1)) (h : zx_E d j (pc + 1) ls (.long (x / y) :: r) w v w1) : zx_E d j pc ls (.long y :: .long x :: r) w v w1 :=
  zx_pure (fun X hZ hR hL hS hc hs k => lv_ldiv X.1 X.2.1 hd hg k) h
theorem zx_o_lrem {y : Int64} {x : Int64} (hg : ¬ y = 0) (hd : decode (zm_cc j) pc = .ok (.lrem, 1)) (h : zx_E d j (pc + 1) ls (.long (x - x / y * y) :: r) w v w1) : zx_E d j pc ls (.long y :: .long x :: r) w v w1 :=
  zx_pure (fun X hZ hR hL hS hc hs k => lv_lrem X.1 X.2.1 hd hg k) h
theorem zx_o_lneg {x : Int64} (hd : decode (zm_cc j) pc = .ok (.lneg, 1)) (h : zx_E d j (pc + 1) ls (.long (-x) :: r) w v w1) : zx_E d j pc ls (.long x :: r) w v w1 :=
  zx_pure (fun X hZ hR hL hS hc hs k => lv_lneg X.1 X.2.1 hd k) h
theorem zx_o_lshl {y : Int32} {x : Int64} (hd : decode (zm_cc j) pc = .ok (.lshl, 1)) (h : zx_E d j (pc + 1) ls (.long (x <<< (y.toInt64 &&& 63)) :: r) w v w1) : zx_E d j pc ls (.int y :: .long x :: r) w v w1 :=
  zx_pure (fun X hZ hR hL hS hc hs k => lv_lshl X.1 X.2.1 hd rfl k) h
theorem zx_o_lshr {y : Int32} {x : Int64} (hd : decode (zm_cc j) pc = .ok (.lshr, 1)) (h : zx_E d j (pc + 1) ls (.long (x >>> (y.toInt64 &&& 63)) :: r) w v w1) : zx_E d j pc ls (.int y :: .long x :: r) w v w1 :=
  zx_pure (fun X hZ hR hL hS hc hs k => lv_lshr X.1 X.2.1 hd rfl k) h
theorem zx_o_lushr {y : Int32} {x : Int64} (hd : decode (zm_cc j) pc = .ok (.lushr, 1)) (h : zx_E d j (pc + 1) ls (.long (x.toUInt64 >>> (y.toInt64.toUInt64 &&& Int64.toUInt64 63)).toInt64 :: r) w v w1) : zx_E d j pc ls (.int y :: .long x :: r) w v w1 :=
  zx_pure (fun X hZ hR hL hS hc hs k => lv_lushr X.1 X.2.1 hd rfl k) h
theorem zx_o_lcmp {y : Int64} {x : Int64} (hd : decode (zm_cc j) pc = .ok (.lcmp, 1)) (h : zx_E d j (pc + 1) ls (.int (lg_cmp x y) :: r) w v w1) : zx_E d j pc ls (.long y :: .long x :: r) w v w1 :=
  zx_pure (fun X hZ hR hL hS hc hs k => W.lcmp X.1 X.2.1 hd k) h
theorem zx_o_i2l {x : Int32} (hd : decode (zm_cc j) pc = .ok (.i2l, 1)) (h : zx_E d j (pc + 1) ls (.long x.toInt64 :: r) w v w1) : zx_E d j pc ls (.int x :: r) w v w1 :=
  zx_pure (fun X hZ hR hL hS hc hs k => lv_i2l X.1 X.2.1 hd rfl k) h
theorem zx_o_l2i {x : Int64} (hd : decode (zm_cc j) pc = .ok (.l2i, 1)) (h : zx_E d j (pc + 1) ls (.int x.toInt32 :: r) w v w1) : zx_E d j pc ls (.long x :: r) w v w1 :=
  zx_pure (fun X hZ hR hL hS hc hs k => lv_l2i X.1 X.2.1 hd rfl k) h
theorem zx_o_i2b {x : Int32} (hd : decode (zm_cc j) pc = .ok (.i2b, 1)) (h : zx_E d j (pc + 1) ls (.int x.toInt8.toInt32 :: r) w v w1) : zx_E d j pc ls (.int x :: r) w v w1 :=
  zx_pure (fun X hZ hR hL hS hc hs k => lv_i2b X.1 X.2.1 hd rfl k) h
theorem zx_o_i2s {x : Int32} (hd : decode (zm_cc j) pc = .ok (.i2s, 1)) (h : zx_E d j (pc + 1) ls (.int x.toInt16.toInt32 :: r) w v w1) : zx_E d j pc ls (.int x :: r) w v w1 :=
  zx_pure (fun X hZ hR hL hS hc hs k => lv_i2s X.1 X.2.1 hd rfl k) h
theorem zx_o_i2c {x : Int32} (hd : decode (zm_cc j) pc = .ok (.i2c, 1)) (h : zx_E d j (pc + 1) ls (.int (x.toUInt32 % 65536).toInt32 :: r) w v w1) : zx_E d j pc ls (.int x :: r) w v w1 :=
  zx_pure (fun X hZ hR hL hS hc hs k => lv_i2c X.1 X.2.1 hd rfl k) h
theorem zx_o_dup {a : Value} (hg : a.category = 1) (hd : decode (zm_cc j) pc = .ok (.dup, 1)) (h : zx_E d j (pc + 1) ls (a :: a :: r) w v w1) : zx_E d j pc ls (a :: r) w v w1 :=
  zx_pure (fun X hZ hR hL hS hc hs k => lv_dup X.1 X.2.1 hd (by rw [zx_v_cat]; exact hg) k) h
theorem zx_o_pop {a : Value} (hg : a.category = 1) (hd : decode (zm_cc j) pc = .ok (.pop, 1)) (h : zx_E d j (pc + 1) ls (r) w v w1) : zx_E d j pc ls (a :: r) w v w1 :=
  zx_pure (fun X hZ hR hL hS hc hs k => lv_pop X.1 X.2.1 hd (by rw [zx_v_cat]; exact hg) k) h
theorem zx_o_dup_x1 {a b : Value} (hg : a.category = 1 ∧ b.category = 1) (hd : decode (zm_cc j) pc = .ok (.dup_x1, 1)) (h : zx_E d j (pc + 1) ls (a :: b :: a :: r) w v w1) : zx_E d j pc ls (a :: b :: r) w v w1 :=
  zx_pure (fun X hZ hR hL hS hc hs k => lv_dup_x1 X.1 X.2.1 hd (by rw [zx_v_cat]; exact hg.1) (by rw [zx_v_cat]; exact hg.2) k) h
theorem zx_o_dup_x2 {a b e : Value} (hg : a.category = 1 ∧ b.category = 1 ∧ e.category = 1) (hd : decode (zm_cc j) pc = .ok (.dup_x2, 1)) (h : zx_E d j (pc + 1) ls (a :: b :: e :: a :: r) w v w1) : zx_E d j pc ls (a :: b :: e :: r) w v w1 :=
  zx_pure (fun X hZ hR hL hS hc hs k => lv_dup_x2 X.1 X.2.1 hd (by rw [zx_v_cat]; exact hg.1) (by rw [zx_v_cat]; exact hg.2.1) (by rw [zx_v_cat]; exact hg.2.2) k) h
theorem zx_o_dup2 {a b : Value} (hg : a.category = 1 ∧ b.category = 1) (hd : decode (zm_cc j) pc = .ok (.dup2, 1)) (h : zx_E d j (pc + 1) ls (a :: b :: a :: b :: r) w v w1) : zx_E d j pc ls (a :: b :: r) w v w1 :=
  zx_pure (fun X hZ hR hL hS hc hs k => lv_dup2_11 X.1 X.2.1 hd (by rw [zx_v_cat]; exact hg.1) (by rw [zx_v_cat]; exact hg.2) k) h
theorem zx_o_iconst {n : Int} (hd : decode (zm_cc j) pc = .ok (.iconst n, 1)) (h : zx_E d j (pc + 1) ls (.int (Int32.ofInt n) :: r) w v w1) : zx_E d j pc ls r w v w1 :=
  zx_pure (fun X hZ hR hL hS hc hs k => lv_iconst X.1 X.2.1 hd rfl k) h
theorem zx_o_bipush {n : Int} (hd : decode (zm_cc j) pc = .ok (.bipush n, 2)) (h : zx_E d j (pc + 2) ls (.int (Int8.ofInt n).toInt32 :: r) w v w1) : zx_E d j pc ls r w v w1 :=
  zx_pure (fun X hZ hR hL hS hc hs k => lv_bipush X.1 X.2.1 hd rfl k) h
theorem zx_o_sipush {n : Int} (hd : decode (zm_cc j) pc = .ok (.sipush n, 3)) (h : zx_E d j (pc + 3) ls (.int (Int16.ofInt n).toInt32 :: r) w v w1) : zx_E d j pc ls r w v w1 :=
  zx_pure (fun X hZ hR hL hS hc hs k => lv_sipush X.1 X.2.1 hd rfl k) h
theorem zx_o_lconst {n : Fin 2} (hd : decode (zm_cc j) pc = .ok (.lconst n, 1)) (h : zx_E d j (pc + 1) ls (.long (Int64.ofNat (n : Nat)) :: r) w v w1) : zx_E d j pc ls r w v w1 :=
  zx_pure (fun X hZ hR hL hS hc hs k => lv_lconst X.1 X.2.1 hd rfl k) h
theorem zx_o_aconst_null (hd : decode (zm_cc j) pc = .ok (.aconst_null, 1)) (h : zx_E d j (pc + 1) ls (.null :: r) w v w1) : zx_E d j pc ls r w v w1 :=
  zx_pure (fun X hZ hR hL hS hc hs k => lv_null X.1 X.2.1 hd k) h
theorem zx_o_iload_n {k : Fin 4} {x : Int32} (hg : zx_get ls k = some (.int x)) (hd : decode (zm_cc j) pc = .ok (.iload_n k, 1)) (h : zx_E d j (pc + 1) ls (.int x :: r) w v w1) : zx_E d j pc ls r w v w1 :=
  zx_pure (fun X hZ hR hL hS hc hs k => lv_iload_n X.1 X.2.1 hd rfl (hL.2.2.1 _ _ (zx_get_at hg)) k) h
theorem zx_o_iload {k : Nat} {x : Int32} (hg : zx_get ls k = some (.int x)) (hd : decode (zm_cc j) pc = .ok (.iload k, 2)) (h : zx_E d j (pc + 2) ls (.int x :: r) w v w1) : zx_E d j pc ls r w v w1 :=
  zx_pure (fun X hZ hR hL hS hc hs k => lv_iload X.1 X.2.1 hd (hL.2.2.1 _ _ (zx_get_at hg)) k) h
theorem zx_o_lload_n {k : Fin 4} {x : Int64} (hg : zx_get ls k = some (.long x)) (hd : decode (zm_cc j) pc = .ok (.lload_n k, 1)) (h : zx_E d j (pc + 1) ls (.long x :: r) w v w1) : zx_E d j pc ls r w v w1 :=
  zx_pure (fun X hZ hR hL hS hc hs k => lv_lload_n X.1 X.2.1 hd rfl (hL.2.2.1 _ _ (zx_get_at hg)) k) h
theorem zx_o_lload {k : Nat} {x : Int64} (hg : zx_get ls k = some (.long x)) (hd : decode (zm_cc j) pc = .ok (.lload k, 2)) (h : zx_E d j (pc + 2) ls (.long x :: r) w v w1) : zx_E d j pc ls r w v w1 :=
  zx_pure (fun X hZ hR hL hS hc hs k => lv_lload X.1 X.2.1 hd (hL.2.2.1 _ _ (zx_get_at hg)) k) h
theorem zx_o_aload_n {k : Fin 4} {x : Nat} (hg : zx_get ls k = some (.ref x)) (hd : decode (zm_cc j) pc = .ok (.aload_n k, 1)) (h : zx_E d j (pc + 1) ls (.ref x :: r) w v w1) : zx_E d j pc ls r w v w1 :=
  zx_pure (fun X hZ hR hL hS hc hs k => lv_aload_n X.1 X.2.1 hd rfl (hL.2.2.1 _ _ (zx_get_at hg)) k) h
theorem zx_o_aload {k : Nat} {x : Nat} (hg : zx_get ls k = some (.ref x)) (hd : decode (zm_cc j) pc = .ok (.aload k, 2)) (h : zx_E d j (pc + 2) ls (.ref x :: r) w v w1) : zx_E d j pc ls r w v w1 :=
  zx_pure (fun X hZ hR hL hS hc hs k => lv_aload X.1 X.2.1 hd (hL.2.2.1 _ _ (zx_get_at hg)) k) h
theorem zx_o_aload_nN {k : Fin 4} (hg : zx_get ls k = some .null) (hd : decode (zm_cc j) pc = .ok (.aload_n k, 1)) (h : zx_E d j (pc + 1) ls (.null :: r) w v w1) : zx_E d j pc ls r w v w1 :=
  zx_pure (fun X hZ hR hL hS hc hs k => lv_aload_nN X.1 X.2.1 hd rfl (hL.2.2.1 _ _ (zx_get_at hg)) k) h
theorem zx_o_aloadN {k : Nat} (hg : zx_get ls k = some .null) (hd : decode (zm_cc j) pc = .ok (.aload k, 2)) (h : zx_E d j (pc + 2) ls (.null :: r) w v w1) : zx_E d j pc ls r w v w1 :=
  zx_pure (fun X hZ hR hL hS hc hs k => lv_aloadN X.1 X.2.1 hd (hL.2.2.1 _ _ (zx_get_at hg)) k) h
theorem zx_o_istore_n {k : Fin 4} {x : Int32} (hg : (k : Nat) < ls.length) (hd : decode (zm_cc j) pc = .ok (.istore_n k, 1)) (h : zx_E d j (pc + 1) (zx_s1 ls k (.int x)) r w v w1) : zx_E d j pc ls (.int x :: r) w v w1 :=
  zx_loc (fun X hL kk => lv_istore_n X.1 X.2.1 hd rfl hL.has (Nat.lt_of_lt_of_le hg hL.2.2.2) rfl (fun l' h' => kk l' (zx_L.st1 h' hL.2.2.2))) h
theorem zx_o_istore {k : Nat} {x : Int32} (hg : k < ls.length) (hd : decode (zm_cc j) pc = .ok (.istore k, 2)) (h : zx_E d j (pc + 2) (zx_s1 ls k (.int x)) r w v w1) : zx_E d j pc ls (.int x :: r) w v w1 :=
  zx_loc (fun X hL kk => lv_istore X.1 X.2.1 hd hL.has (Nat.lt_of_lt_of_le hg hL.2.2.2) rfl (fun l' h' => kk l' (zx_L.st1 h' hL.2.2.2))) h
theorem zx_o_astore_n {k : Fin 4} {x : Nat} (hg : (k : Nat) < ls.length) (hd : decode (zm_cc j) pc = .ok (.astore_n k, 1)) (h : zx_E d j (pc + 1) (zx_s1 ls k (.ref x)) r w v w1) : zx_E d j pc ls (.ref x :: r) w v w1 :=
  zx_loc (fun X hL kk => lv_astore_n X.1 X.2.1 hd rfl hL.has (Nat.lt_of_lt_of_le hg hL.2.2.2) rfl (fun l' h' => kk l' (zx_L.st1 h' hL.2.2.2))) h
theorem zx_o_astore {k : Nat} {x : Nat} (hg : k < ls.length) (hd : decode (zm_cc j) pc = .ok (.astore k, 2)) (h : zx_E d j (pc + 2) (zx_s1 ls k (.ref x)) r w v w1) : zx_E d j pc ls (.ref x :: r) w v w1 :=
  zx_loc (fun X hL kk => lv_astore X.1 X.2.1 hd hL.has (Nat.lt_of_lt_of_le hg hL.2.2.2) rfl (fun l' h' => kk l' (zx_L.st1 h' hL.2.2.2))) h
theorem zx_o_astore_nN {k : Fin 4} (hg : (k : Nat) < ls.length) (hd : decode (zm_cc j) pc = .ok (.astore_n k, 1)) (h : zx_E d j (pc + 1) (zx_s1 ls k .null) r w v w1) : zx_E d j pc ls (.null :: r) w v w1 :=
  zx_loc (fun X hL kk => lv_astore_nN X.1 X.2.1 hd rfl hL.has (Nat.lt_of_lt_of_le hg hL.2.2.2) rfl (fun l' h' => kk l' (zx_L.st1 (v := .null) h' hL.2.2.2))) h
theorem zx_o_astoreN {k : Nat} (hg : k < ls.length) (hd : decode (zm_cc j) pc = .ok (.astore k, 2)) (h : zx_E d j (pc + 2) (zx_s1 ls k .null) r w v w1) : zx_E d j pc ls (.null :: r) w v w1 :=
  zx_loc (fun X hL kk => lv_astoreN X.1 X.2.1 hd hL.has (Nat.lt_of_lt_of_le hg hL.2.2.2) rfl (fun l' h' => kk l' (zx_L.st1 (v := .null) h' hL.2.2.2))) h
theorem zx_o_lstore_n {k : Fin 4} {x : Int64} (hg : (k : Nat) + 1 < ls.length) (hd : decode (zm_cc j) pc = .ok (.lstore_n k, 1)) (h : zx_E d j (pc + 1) (zx_s2 ls k (.long x)) r w v w1) : zx_E d j pc ls (.long x :: r) w v w1 :=
  zx_loc (fun X hL kk => lv_lstore_n X.1 X.2.1 hd rfl hL.has (Nat.lt_of_lt_of_le hg hL.2.2.2) rfl (fun l' h' => kk l' (zx_L.st2 h' hL.2.2.2))) h
theorem zx_o_lstore {k : Nat} {x : Int64} (hg : k + 1 < ls.length) (hd : decode (zm_cc j) pc = .ok (.lstore k, 2)) (h : zx_E d j (pc + 2) (zx_s2 ls k (.long x)) r w v w1) : zx_E d j pc ls (.long x :: r) w v w1 :=
  zx_loc (fun X hL kk => lv_lstore X.1 X.2.1 hd hL.has (Nat.lt_of_lt_of_le hg hL.2.2.2) rfl (fun l' h' => kk l' (zx_L.st2 h' hL.2.2.2))) h
theorem zx_o_iinc {k : Nat} {n : Int} {x : Int32} (hg : zx_get ls k = some (.int x)) (hd : decode (zm_cc j) pc = .ok (.iinc k n, 3)) (h : zx_E d j (pc + 3) (zx_s1 ls k (.int (x + Int32.ofInt n))) r w v w1) : zx_E d j pc ls r w v w1 := by
  refine zx_loc (fun X hL kk => ?_) h
  have hk : k < ls.length := (List.getElem?_eq_some_iff.mp (zx_get_at hg)).1
  obtain ⟨i, hi⟩ := List.getElem?_of_mem ((zx_ps_in (q := (k, Value.int x))).mpr ⟨.int x, zx_get_at hg, rfl⟩)
  exact lv_iinc X.1 X.2.1 hd hL.has hi rfl (Nat.lt_of_lt_of_le hk hL.2.2.2) rfl (fun l' h' => kk l' (zx_L.st1 h' hL.2.2.2))
theorem zx_o_if {cc : ClassFile.Cond} {off : Int} {x : Int32} {t : Nat} (ht : zx_to pc off = some t) (hd : decode (zm_cc j) pc = .ok (.ifCond cc off, 3)) (h : zx_E d j (if zx_cmp cc x 0 = true then t else pc + 3) ls r w v w1) : zx_E d j pc ls (.int x :: r) w v w1 := by
  have ht' := zx_to_at ht
  refine zx_pure (fun X hZ hR hL hS hc hs k => ?_) h
  cases cc <;> simp only [zx_cmp, decide_eq_true_eq] at k
  · exact lv_if_eq X.1 X.2.1 hd ht' (fun q => by rw [if_pos q] at k; exact k) (fun q => by rw [if_neg q] at k; exact k)
  · exact lv_if_ne X.1 X.2.1 hd ht' (fun q => by rw [if_pos q] at k; exact k) (fun q => by rw [if_neg (fun z => z q)] at k; exact k)
  · exact lv_if_lt X.1 X.2.1 hd ht' (fun q => by rw [if_pos q] at k; exact k) (fun q => by rw [if_neg q] at k; exact k)
  · exact lv_if_ge X.1 X.2.1 hd ht' (fun q => by rw [if_pos q] at k; exact k) (fun q => by rw [if_neg q] at k; exact k)
  · exact lv_if_gt X.1 X.2.1 hd ht' (fun q => by rw [if_pos q] at k; exact k) (fun q => by rw [if_neg q] at k; exact k)
  · exact lv_if_le X.1 X.2.1 hd ht' (fun q => by rw [if_pos q] at k; exact k) (fun q => by rw [if_neg q] at k; exact k)
theorem zx_o_icmp {cc : ClassFile.Cond} {off : Int} {x y : Int32} {t : Nat} (ht : zx_to pc off = some t) (hd : decode (zm_cc j) pc = .ok (.if_icmp cc off, 3)) (h : zx_E d j (if zx_cmp cc x y = true then t else pc + 3) ls r w v w1) : zx_E d j pc ls (.int y :: .int x :: r) w v w1 := by
  have ht' := zx_to_at ht
  refine zx_pure (fun X hZ hR hL hS hc hs k => ?_) h
  cases cc <;> simp only [zx_cmp, decide_eq_true_eq] at k
  · exact lv_icmp_eq X.1 X.2.1 hd ht' (fun q => by rw [if_pos q] at k; exact k) (fun q => by rw [if_neg q] at k; exact k)
  · exact lv_icmp_ne X.1 X.2.1 hd ht' (fun q => by rw [if_pos q] at k; exact k) (fun q => by rw [if_neg (fun z => z q)] at k; exact k)
  · exact lv_icmp_lt X.1 X.2.1 hd ht' (fun q => by rw [if_pos q] at k; exact k) (fun q => by rw [if_neg q] at k; exact k)
  · exact lv_icmp_ge X.1 X.2.1 hd ht' (fun q => by rw [if_pos q] at k; exact k) (fun q => by rw [if_neg q] at k; exact k)
  · exact lv_icmp_gt X.1 X.2.1 hd ht' (fun q => by rw [if_pos q] at k; exact k) (fun q => by rw [if_neg q] at k; exact k)
  · exact lv_icmp_le X.1 X.2.1 hd ht' (fun q => by rw [if_pos q] at k; exact k) (fun q => by rw [if_neg q] at k; exact k)
theorem zx_o_goto {off : Int} {t : Nat} (ht : zx_to pc off = some t) (hd : decode (zm_cc j) pc = .ok (.goto off, 3)) (h : zx_E d j t ls r w v w1) : zx_E d j pc ls r w v w1 :=
  zx_pure (fun X hZ hR hL hS hc hs k => lv_goto X.1 X.2.1 hd (zx_to_at ht) k) h
theorem zx_o_ifnull {off : Int} {t : Nat} (ht : zx_to pc off = some t) (hd : decode (zm_cc j) pc = .ok (.ifnull off, 3)) (h : zx_E d j t ls r w v w1) : zx_E d j pc ls (.null :: r) w v w1 :=
  zx_pure (fun X hZ hR hL hS hc hs k => lv_ifnullN X.1 X.2.1 hd (zx_to_at ht) k) h
theorem zx_o_ifnull2 {off : Int} {q : Nat} (hd : decode (zm_cc j) pc = .ok (.ifnull off, 3)) (h : zx_E d j (pc + 3) ls r w v w1) : zx_E d j pc ls (.ref q :: r) w v w1 :=
  zx_pure (fun X hZ hR hL hS hc hs k => lv_ifnull X.1 X.2.1 hd k) h
theorem zx_o_ifnonnull {off : Int} {t q : Nat} (ht : zx_to pc off = some t) (hd : decode (zm_cc j) pc = .ok (.ifnonnull off, 3)) (h : zx_E d j t ls r w v w1) : zx_E d j pc ls (.ref q :: r) w v w1 :=
  zx_pure (fun X hZ hR hL hS hc hs k => lv_ifnonnull X.1 X.2.1 hd (zx_to_at ht) k) h
theorem zx_o_ifnonnull2 {off : Int} (hd : decode (zm_cc j) pc = .ok (.ifnonnull off, 3)) (h : zx_E d j (pc + 3) ls r w v w1) : zx_E d j pc ls (.null :: r) w v w1 :=
  zx_pure (fun X hZ hR hL hS hc hs k => lv_ifnonnullN X.1 X.2.1 hd k) h
theorem zx_o_table {dflt lo hi : Int} {offs : Array Int} {len t : Nat} {x : Int32} (ht : zx_to pc (if x.toInt < lo ∨ hi < x.toInt then dflt else (offs[(x.toInt - lo).toNat]?).getD (-1 - (pc : Int))) = some t) (hd : decode (zm_cc j) pc = .ok (.tableswitch dflt lo hi offs, len)) (h : zx_E d j t ls r w v w1) : zx_E d j pc ls (.int x :: r) w v w1 := by
  refine zx_pure (fun X hZ hR hL hS hc hs k => ?_) h
  by_cases g : x.toInt < lo ∨ hi < x.toInt
  · rw [if_pos g] at ht
    exact lv_tableOut X.1 X.2.1 hd g (zx_to_at ht) k
  · rw [if_neg g] at ht
    cases ho : offs[(x.toInt - lo).toNat]? with
    | none =>
      rw [ho] at ht
      have := zx_to_at ht
      simp only [Option.getD_none] at this
      omega
    | some off =>
      rw [ho] at ht
      exact lv_tableIn X.1 X.2.1 hd (fun q => g (Or.inl q)) (fun q => g (Or.inr q)) ho (zx_to_at ht) k
theorem zx_o_lookup {dflt : Int} {ps : Array (Int × Int)} {len t : Nat} {x : Int32} (hp : (ps.toList.zip (ps.toList.drop 1)).all (fun (a, next) => a.1 < next.1) = true) (ht : zx_to pc (Op.lookupswitch.offset ps.toList dflt x.toInt) = some t) (hd : decode (zm_cc j) pc = .ok (.lookupswitch dflt ps, len)) (h : zx_E d j t ls r w v w1) : zx_E d j pc ls (.int x :: r) w v w1 :=
  zx_pure (fun X hZ hR hL hS hc hs k => lv_lookup X.1 X.2.1 hd hp rfl (zx_to_at ht) k) h
theorem zx_o_ldc {n : Nat} {x : Int32} (hl : zl_n (zm_o j) n = some x) (hd : decode (zm_cc j) pc = .ok (.ldc n, 2)) (h : zx_E d j (pc + 2) ls (.int x :: r) w v w1) : zx_E d j pc ls r w v w1 :=
  zx_pure (fun X hZ hR hL hS hc hs k => lv_ldc X.1 X.2.1 X.ow (X.ts _ (zl_N_ok _ (zl_find_mem hl))) hd k) h
theorem zx_o_ldcw {n : Nat} {x : Int32} (hl : zl_n (zm_o j) n = some x) (hd : decode (zm_cc j) pc = .ok (.ldc_w n, 3)) (h : zx_E d j (pc + 3) ls (.int x :: r) w v w1) : zx_E d j pc ls r w v w1 :=
  zx_pure (fun X hZ hR hL hS hc hs k => lv_ldcw X.1 X.2.1 X.ow (X.ts _ (zl_N_ok _ (zl_find_mem hl))) hd k) h
theorem zx_o_ldc2 {n : Nat} {x : Int64} (hl : zl_l (zm_o j) n = some x) (hd : decode (zm_cc j) pc = .ok (.ldc2_w n, 3)) (h : zx_E d j (pc + 3) ls (.long x :: r) w v w1) : zx_E d j pc ls r w v w1 :=
  zx_pure (fun X hZ hR hL hS hc hs k => lv_ldc2 X.1 X.2.1 X.ow (X.ts _ (zl_L_ok _ (zl_find_mem hl))) hd k) h
theorem zx_o_getfield {n c q k : Nat} (hl : zl_f (zm_o j) n = some (c, k)) (hk : w.2.1 q = .inl c) (hq : q < w.1.1) (hd : decode (zm_cc j) pc = .ok (.getfield n, 3)) (h : zx_E d j (pc + 3) ls (zx_val w (zt_ty c k) q k :: r) w v w1) : zx_E d j pc ls (.ref q :: r) w v w1 := by
  obtain ⟨hw, hc, hn⟩ := zl_F_ok _ (zl_find_mem hl)
  refine zx_pure (fun X hZ hR hL hS _ _ kk => ?_) h
  have hat := hR.2.2 q hq
  unfold zx_at at hat
  rw [hk] at hat
  obtain ⟨-, cell, q1, q2, q3, q4⟩ := hat hc
  obtain ⟨hS', hfc, kC, hkC, hkind⟩ := X.K.1 c _ (zt_cl c hc)
  obtain ⟨cf, kf, fi, f, hi, hsl⟩ := hS' k hn
  have hst := (u_facts hfc hkC (u_lays X.ts (zt_ok c hc).2.2 hn) hi).1
  have e := zt_dc c hc k hn
  have hi' : _ = _ := hi
  rw [e] at hi'
  refine W.getf X.1 X.2.1 X.ow (X.ts _ hw) hi' hst q1 (by rw [q3]; exact fun h => by cases h) (v := zx_v _ (zx_val w (zt_ty c k) q k)) ?_ rfl rfl hd kk
  rw [hsl]
  exact q4 k hn
theorem zx_ob {q c : Nat} {s : State} {D : va_G} {tc : FieldType → ClassId} {ad : Nat → Nat} {H : Heap} (hR : zx_R s D tc ad 2 w H) (hk : w.2.1 q = .inl c) (hq : q < w.1.1) (hc : c < 13) : 2 ≤ q ∧ t_OB (ad q) (D.1 c) (zt_n c) (D.2 c) H (fun k => zx_v ad (zx_val w (zt_ty c k) q k)) := by
  have hat := hR.2.2 q hq
  unfold zx_at at hat
  rw [hk] at hat
  exact hat hc
theorem zx_ar {q n : Nat} {ty : FieldType} {s : State} {D : va_G} {tc : FieldType → ClassId} {ad : Nat → Nat} {H : Heap} (hR : zx_R s D tc ad 2 w H) (hk : w.2.1 q = .inr (ty, n)) (hq : 2 ≤ q ∧ q < w.1.1) : zx_ty ty = true ∧ H[ad q]? = some (arrV (tc ty) n (fun j => zx_v ad (zx_val w ty q j))) := by
  have hat := hR.2.2 q hq.2
  unfold zx_at at hat
  rw [hk] at hat
  rcases hat with ⟨h1, -⟩ | ⟨-, h2, h3⟩
  · omega
  · exact ⟨h2, h3⟩
theorem zx_o_putfield {n c q k : Nat} {x : Value} (hl : zl_f (zm_o j) n = some (c, k)) (hk : w.2.1 q = .inl c) (hq : q < w.1.1) (hf : zx_fit (zt_ty c k) x = true) (hm : zx_mayPut j c k = true) (hd : decode (zm_cc j) pc = .ok (.putfield n, 3)) (h : zx_E d j (pc + 3) ls r (zx_set w q k x) v w1) : zx_E d j pc ls (x :: .ref q :: r) w v w1 := by
  obtain ⟨hw, hc, hn⟩ := zl_F_ok _ (zl_find_mem hl)
  refine zx_put (q := q) (i := k) (x := x) ?_ (fun hR => (zx_ob hR hk hq hc).1) h
  intro p l e R s m args below meth cd H locs cells slots Q D tc ad lsr X hR hL h2 kk
  obtain ⟨-, cell, q1, q2, q3, q4⟩ := zx_ob hR hk hq hc
  have hKc := X.K.1 c _ (zt_cl c hc)
  obtain ⟨hS', hfc, kC, hkC, hkind⟩ := hKc
  obtain ⟨cf, kf, fi, f, hi, hsl⟩ := hS' k hn
  have hlays := u_lays X.ts (zt_ok c hc).2.2 hn
  have hst := (u_facts hfc hkC hlays hi).1
  have hty := (zt_ok c hc).1 k hn
  obtain ⟨hnar, hfit⟩ := zx_fit_narrow ad hf
  have hap := va_apart (own := zm_own j) X.ts (zt_ok c hc).2.2 (zt_ty c) (zt_ok c hc).1 (zt_ok c hc).2.1 X.K (zt_cl c hc)
  have e := zt_dc c hc k hn
  have new : ∀ H' : Heap, H'[ad q]? = some (cell.setSlot f.slot (zx_v ad x)) → zx_at s D tc ad 2 (zx_set w q k x) H' q := by
    intro H' e1
    unfold zx_at
    rw [zx_set_k, hk]
    intro _
    rw [hsl] at e1
    exact ⟨h2, t_OB.to (V := updV (fun k => zx_v ad (zx_val w (zt_ty c k) q k)) k (zx_v ad x)) ⟨_, e1, q2, q3, t_set q4 hap hn (zx_v ad x)⟩ (fun i _ => zx_updF (zx_fit_kin hf) i)⟩
  have hlt : f.slot < cell.slots.size := by rw [hsl]; exact k2_hasslot (q4 k hn)
  have hlay := X.ts _ ((zt_ok c hc).2.2 _ (u_in_lay hn))
  unfold u_lay at hlay
  by_cases hfin : (zc_T c k).2.2.2 = true
  · rw [if_pos hfin] at hlay
    have hmm : (zm_y j).name = "<init>" ∧ zm_o j = c := by
      simpa [zx_mayPut, hfin] using hm
    have hcf : m.cls = cf := by
      obtain ⟨_, _, c', _, _, _, -, -, hf', -, -, -, hown2, -⟩ := Cond.laysFinal_spec hlay
      have e1 : c' = cf := by have := hi.symm.trans hf'; simp at this; exact this.1.symm
      rw [e] at hown2
      have ho := X.ow
      unfold zm_own at ho
      rw [hmm.2] at ho
      rw [← e1]
      exact Option.some.inj (ho.symm.trans hown2)
    have h6 := u_fits hfc hkC hkind (Or.inr hlay) hi hty hnar hfit
    have hi' : _ = _ := hi
    rw [e] at hi'
    exact W.putFinK X.1 X.2.1 X.ow (X.ts _ hw) hi' hst hcf (X.nm.trans hmm.1) (by rw [q2]; exact h6) q1 q3 hlt rfl rfl hd fun H' e1 e2 e3 => kk H' _ e2 e3 (new H' e1)
  · rw [if_neg hfin] at hlay
    have h6 := u_store hfc hkC hkind hlay hi hty hnar hfit
    have hi' : _ = _ := hi
    rw [e] at hi'
    exact W.putK X.1 X.2.1 (f := f) ⟨X.ow, X.ts _ hw, ⟨_, _, _, hi'⟩, hst⟩ (by rw [q2]; exact h6) q1 q3 hlt rfl rfl hd fun H' e1 e2 e3 => kk H' _ e2 e3 (new H' e1)
theorem zx_o_getstatic {n q : Nat} (hl : zl_s (zm_o j) n = some q) (hd : decode (zm_cc j) pc = .ok (.getstatic n, 3)) (h : zx_E d j (pc + 3) ls (.ref q :: r) w v w1) : zx_E d j pc ls r w v w1 := by
  unfold zl_s at hl
  split at hl
  · rename_i ho
    cases hl
    obtain ⟨ho, rfl⟩ := ho
    refine zx_pure (fun X hZ hR hL hS _ _ kk => ?_) h
    have hown := X.ow
    unfold zm_own at hown
    rw [ho] at hown
    exact va_getsN X.1 X.2.1 hZ.1 hS hown (va_Nw.use rfl (X.ne (.fieldLinkNest "RaceLocks$Tokens" 73 "RaceLocks" "RESERVED" "[J" "RaceLocks") (List.mem_cons_of_mem _ List.mem_cons_self))) (fun x hx => hx) hd kk
  · cases hl
theorem zx_o_arraylength {q n : Nat} {ty : FieldType} (hk : w.2.1 q = .inr (ty, n)) (hq : q < w.1.1) (hd : decode (zm_cc j) pc = .ok (.arraylength, 1)) (h : zx_E d j (pc + 1) ls (.int (Int32.ofNat n) :: r) w v w1) : zx_E d j pc ls (.ref q :: r) w v w1 := by
  refine zx_pure (fun X hZ hR hL hS _ _ kk => ?_) h
  obtain ⟨cell, h1, h2, h3, h4, h5⟩ := (hR.2.2 q hq).arr X.K hk
  exact W.alen X.1 X.2.1 h1 h2 h4.2 rfl rfl hd kk
theorem zx_o_iaload {q n : Nat} {i : Int32} (hk : w.2.1 q = .inr (.int, n)) (hq : q < w.1.1) (hi : zx_ins i n = true) (hd : decode (zm_cc j) pc = .ok (.iaload, 1)) (h : zx_E d j (pc + 1) ls (.int (w.2.2.1 q i.toNatClampNeg) :: r) w v w1) : zx_E d j pc ls (.int i :: .ref q :: r) w v w1 := by
  refine zx_pure (fun X hZ hR hL hS _ _ kk => ?_) h
  obtain ⟨cell, h1, h2, h3, h4, h5⟩ := (hR.2.2 q hq).arr X.K hk
  have hin := zx_ins_in hi
  exact W.iald (v := .int (w.2.2.1 q i.toNatClampNeg)) X.1 X.2.1 h1 h2 h3 (fun z => hin (z.imp id (fun q => Nat.le_trans h4.1 q))) (h5 _ (Nat.not_le.mp fun z => hin (Or.inr z))) rfl rfl hd kk
theorem zx_o_laload {q n : Nat} {i : Int32} (hk : w.2.1 q = .inr (.long, n)) (hq : q < w.1.1) (hi : zx_ins i n = true) (hd : decode (zm_cc j) pc = .ok (.laload, 1)) (h : zx_E d j (pc + 1) ls (.long (w.2.2.2.1 q i.toNatClampNeg) :: r) w v w1) : zx_E d j pc ls (.int i :: .ref q :: r) w v w1 := by
  refine zx_pure (fun X hZ hR hL hS _ _ kk => ?_) h
  obtain ⟨cell, h1, h2, h3, h4, h5⟩ := (hR.2.2 q hq).arr X.K hk
  have hin := zx_ins_in hi
  exact W.lald (v := .long (w.2.2.2.1 q i.toNatClampNeg)) X.1 X.2.1 h1 h2 h3 (fun z => hin (z.imp id (fun q => Nat.le_trans h4.1 q))) (h5 _ (Nat.not_le.mp fun z => hin (Or.inr z))) rfl rfl hd kk
theorem zx_o_baload {q n : Nat} {i : Int32} (hk : w.2.1 q = .inr (.byte, n)) (hq : q < w.1.1) (hi : zx_ins i n = true) (hd : decode (zm_cc j) pc = .ok (.baload, 1)) (h : zx_E d j (pc + 1) ls (.int (w.2.2.1 q i.toNatClampNeg) :: r) w v w1) : zx_E d j pc ls (.int i :: .ref q :: r) w v w1 := by
  refine zx_pure (fun X hZ hR hL hS _ _ kk => ?_) h
  obtain ⟨cell, h1, h2, h3, h4, h5⟩ := (hR.2.2 q hq).arr X.K hk
  have hin := zx_ins_in hi
  exact W.bald (v := .int (w.2.2.1 q i.toNatClampNeg)) X.1 X.2.1 h1 h2 h3 (fun z => hin (z.imp id (fun q => Nat.le_trans h4.1 q))) (h5 _ (Nat.not_le.mp fun z => hin (Or.inr z))) rfl rfl hd kk
theorem zx_o_zaload {q n : Nat} {i : Int32} (hk : w.2.1 q = .inr (.boolean, n)) (hq : q < w.1.1) (hi : zx_ins i n = true) (hd : decode (zm_cc j) pc = .ok (.baload, 1)) (h : zx_E d j (pc + 1) ls (.int (w.2.2.1 q i.toNatClampNeg) :: r) w v w1) : zx_E d j pc ls (.int i :: .ref q :: r) w v w1 := by
  refine zx_pure (fun X hZ hR hL hS _ _ kk => ?_) h
  obtain ⟨cell, h1, h2, h3, h4, h5⟩ := (hR.2.2 q hq).arr X.K hk
  have hin := zx_ins_in hi
  exact W.zald (v := .int (w.2.2.1 q i.toNatClampNeg)) X.1 X.2.1 h1 h2 h3 (fun z => hin (z.imp id (fun q => Nat.le_trans h4.1 q))) (h5 _ (Nat.not_le.mp fun z => hin (Or.inr z))) rfl rfl hd kk
theorem zx_o_iastore {q n : Nat} {i : Int32} {x : Int32} (hk : w.2.1 q = .inr (.int, n)) (hq : 2 ≤ q ∧ q < w.1.1) (hi : zx_ins i n = true) (hd : decode (zm_cc j) pc = .ok (.iastore, 1)) (h : zx_E d j (pc + 1) ls r (zx_set w q i.toNatClampNeg (.int x)) v w1) : zx_E d j pc ls (.int x :: .int i :: .ref q :: r) w v w1 := by
  refine zx_put (q := q) (i := i.toNatClampNeg) (x := .int x) ?_ (fun _ => hq.1) h
  intro p l e R s m args below meth cd H locs cells slots Q D tc ad lsr X hR hL h2 kk
  obtain ⟨ht, hc⟩ := zx_ar hR hk hq
  have hin := zx_ins_in hi
  refine W.iast X.1 X.2.1 hc ((zx_ty_in X.K ht).1 _ _) (fun q => by cases q) (by rw [arrV_size]; exact hin) rfl rfl hd fun H' e1 e2 e3 => kk H' _ e2 e3 ?_
  unfold zx_at
  rw [zx_set_k, hk]
  refine Or.inr ⟨hq.1, ht, e1.trans ?_⟩
  rw [arrV_store, ← zx_updA (x := .int x) (show zx_kin .int (.int x) from trivial)]
  rfl
theorem zx_o_lastore {q n : Nat} {i : Int32} {x : Int64} (hk : w.2.1 q = .inr (.long, n)) (hq : 2 ≤ q ∧ q < w.1.1) (hi : zx_ins i n = true) (hd : decode (zm_cc j) pc = .ok (.lastore, 1)) (h : zx_E d j (pc + 1) ls r (zx_set w q i.toNatClampNeg (.long x)) v w1) : zx_E d j pc ls (.long x :: .int i :: .ref q :: r) w v w1 := by
  refine zx_put (q := q) (i := i.toNatClampNeg) (x := .long x) ?_ (fun _ => hq.1) h
  intro p l e R s m args below meth cd H locs cells slots Q D tc ad lsr X hR hL h2 kk
  obtain ⟨ht, hc⟩ := zx_ar hR hk hq
  have hin := zx_ins_in hi
  refine W.last X.1 X.2.1 hc ((zx_ty_in X.K ht).1 _ _) (fun q => by cases q) (by rw [arrV_size]; exact hin) rfl rfl hd fun H' e1 e2 e3 => kk H' _ e2 e3 ?_
  unfold zx_at
  rw [zx_set_k, hk]
  refine Or.inr ⟨hq.1, ht, e1.trans ?_⟩
  rw [arrV_store, ← zx_updA (x := .long x) (show zx_kin .long (.long x) from trivial)]
  rfl
theorem zx_o_bastore {q n : Nat} {i : Int32} {x : Int32} (hk : w.2.1 q = .inr (.byte, n)) (hq : 2 ≤ q ∧ q < w.1.1) (hi : zx_ins i n = true) (hd : decode (zm_cc j) pc = .ok (.bastore, 1)) (h : zx_E d j (pc + 1) ls r (zx_set w q i.toNatClampNeg (.int x.toInt8.toInt32)) v w1) : zx_E d j pc ls (.int x :: .int i :: .ref q :: r) w v w1 := by
  refine zx_put (q := q) (i := i.toNatClampNeg) (x := .int x.toInt8.toInt32) ?_ (fun _ => hq.1) h
  intro p l e R s m args below meth cd H locs cells slots Q D tc ad lsr X hR hL h2 kk
  obtain ⟨ht, hc⟩ := zx_ar hR hk hq
  have hin := zx_ins_in hi
  refine W.bast X.1 X.2.1 hc ((zx_ty_in X.K ht).1 _ _) (fun q => by cases q) (by rw [arrV_size]; exact hin) rfl rfl hd fun H' e1 e2 e3 => kk H' _ e2 e3 ?_
  unfold zx_at
  rw [zx_set_k, hk]
  refine Or.inr ⟨hq.1, ht, e1.trans ?_⟩
  rw [arrV_store, ← zx_updA (x := .int x.toInt8.toInt32) (show zx_kin .byte (.int x.toInt8.toInt32) from trivial)]
  rfl
theorem zx_o_zastore {q n : Nat} {i : Int32} {x : Int32} (hk : w.2.1 q = .inr (.boolean, n)) (hq : 2 ≤ q ∧ q < w.1.1) (hi : zx_ins i n = true) (hd : decode (zm_cc j) pc = .ok (.bastore, 1)) (h : zx_E d j (pc + 1) ls r (zx_set w q i.toNatClampNeg (.int (x &&& 1))) v w1) : zx_E d j pc ls (.int x :: .int i :: .ref q :: r) w v w1 := by
  refine zx_put (q := q) (i := i.toNatClampNeg) (x := .int (x &&& 1)) ?_ (fun _ => hq.1) h
  intro p l e R s m args below meth cd H locs cells slots Q D tc ad lsr X hR hL h2 kk
  obtain ⟨ht, hc⟩ := zx_ar hR hk hq
  have hin := zx_ins_in hi
  refine W.zast X.1 X.2.1 hc ((zx_ty_in X.K ht).1 _ _) (fun q => by cases q) (by rw [arrV_size]; exact hin) rfl rfl hd fun H' e1 e2 e3 => kk H' _ e2 e3 ?_
  unfold zx_at
  rw [zx_set_k, hk]
  refine Or.inr ⟨hq.1, ht, e1.trans ?_⟩
  rw [arrV_store, ← zx_updA (x := .int (x &&& 1)) (show zx_kin .boolean (.int (x &&& 1)) from trivial)]
  rfl
theorem zx_o_new {n c : Nat} (h9 : w.1.1 < 119) (hl : zl_c (zm_o j) n = some c) (hd : decode (zm_cc j) pc = .ok (.new n, 3)) (h : zx_E d j (pc + 3) ls (.ref w.1.1 :: r) (zx_new w (.inl c) (zt_n c)) v w1) : zx_E d j pc ls r w v w1 := by
  obtain ⟨w2, w3, w4, hc⟩ := zl_C_ok _ (zl_find_mem hl)
  refine zx_make (k := .inl c) (n := zt_n c) h9 ?_ h
  intro p l e R s m args below meth cd H locs cells slots Q D tc ad lsr X hz h2 hcells hslots kk
  have hKn := X.K.1 c _ (zt_cl c hc)
  refine W.newcK X.1 X.2.1 X.ow (X.ts _ w2) (X.ts _ w3) (X.ts _ w4) rfl hd hcells hslots hKn.2.1 rfl fun H1 kC hkC e1 z1 o1 => ?_
  have hh : H.size = ad w.1.1 := hz
  have k1 := kk H1 z1 o1 ?_
  · show W p l e R s m args below meth cd H1 locs (cells + 1) (slots + zt_n c) Q (F0 m (pc + 3) lsr (.ref H.size :: _))
    rw [hh]
    exact k1
  · unfold zx_at
    rw [zx_new_kk]
    intro _
    rw [hh] at e1
    refine ⟨h2, (u_born (zt_ty c) X.ts (zt_ok c hc).2.2 hKn hkC e1 (zt_ok c hc).1).to (fun k _ => ?_)⟩
    rw [zx_new_def, zx_v_def]
theorem zx_o_newarray {t : ArrayType} {x : Int32} (hx : ¬ x < 0 ∧ x.toNatClampNeg * componentBytes (newarray.typeOf t) ≤ 536870912) (ht : zx_ty (newarray.typeOf t) = true) (h9 : w.1.1 < 119) (hd : decode (zm_cc j) pc = .ok (.newarray t, 2)) (h : zx_E d j (pc + 2) ls (.ref w.1.1 :: r) (zx_new w (.inr (newarray.typeOf t, x.toNatClampNeg)) x.toNatClampNeg) v w1) : zx_E d j pc ls (.int x :: r) w v w1 := by
  refine zx_make (k := .inr (newarray.typeOf t, x.toNatClampNeg)) (n := x.toNatClampNeg) h9 ?_ h
  intro p l e R s m args below meth cd H locs cells slots Q D tc ad lsr X hz h2 hcells hslots kk
  have harr : (Cond.arrayClass (newarray.typeOf t)).before args s = true := X.ts _ (zx_arrW _ ht)
  refine va_newaK X.1 X.2.1 harr rfl hd rfl hx.1 rfl hx.2 hcells hslots rfl fun H1 cA e1 z1 o1 hA hN => ?_
  have hh : H.size = ad w.1.1 := hz
  have hcA : cA = tc (newarray.typeOf t) := by
    have h9 := (zx_ty_in X.K ht).2
    have h8 : s.vm.findClass ("[" ++ (newarray.typeOf t).toString) = some (tc (newarray.typeOf t)) := by
      revert h9 ht
      cases t <;> intro ht h9 <;> first | exact h9 | (simp [zx_ty, newarray.typeOf] at ht)
    exact Option.some.inj (hN.symm.trans h8)
  have k1 := kk H1 z1 o1 ?_
  · show W p l e R s m args below meth cd H1 locs (cells + 1) (slots + x.toNatClampNeg) Q (F0 m (pc + 2) lsr (.ref H.size :: _))
    rw [hh]
    exact k1
  · unfold zx_at
    rw [zx_new_kk]
    refine Or.inr ⟨h2, ht, ?_⟩
    rw [← hh, e1, hcA]
    congr 2
    funext i
    rw [zx_new_def, zx_v_def]
end OPS
