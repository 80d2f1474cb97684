/-! THE EQUATIONS ONCE MORE, with the value named: for walks along a known road -/
section ZP
variable {d j pc : Nat} {ls : List (Option Value)} {r : List Value} {w : zx_W}
theorem zp_iadd {y : Int32} {x : Int32} {z : Int32} (hd : decode (zm_cc j) pc = .ok (.iadd, 1)) (hz : (x + y) = z) : zx_go d j pc ls (.int y :: .int x :: r) w = zx_go d j (pc + 1) ls (.int z :: r) w := by
  subst hz
  exact zs_iadd hd
theorem zp_isub {y : Int32} {x : Int32} {z : Int32} (hd : decode (zm_cc j) pc = .ok (.isub, 1)) (hz : (x - y) = z) : zx_go d j pc ls (.int y :: .int x :: r) w = zx_go d j (pc + 1) ls (.int z :: r) w := by
  subst hz
  exact zs_isub hd
theorem zp_imul {y : Int32} {x : Int32} {z : Int32} (hd : decode (zm_cc j) pc = .ok (.imul, 1)) (hz : (x * y) = z) : zx_go d j pc ls (.int y :: .int x :: r) w = zx_go d j (pc + 1) ls (.int z :: r) w := by
  subst hz
  exact zs_imul hd
theorem zp_iand {y : Int32} {x : Int32} {z : Int32} (hd : decode (zm_cc j) pc = .ok (.iand, 1)) (hz : (x &&& y) = z) : zx_go d j pc ls (.int y :: .int x :: r) w = zx_go d j (pc + 1) ls (.int z :: r) w := by
  subst hz
  exact zs_iand hd
theorem zp_ior {y : Int32} {x : Int32} {z : Int32} (hd : decode (zm_cc j) pc = .ok (.ior, 1)) (hz : (x ||| y) = z) : zx_go d j pc ls (.int y :: .int x :: r) w = zx_go d j (pc + 1) ls (.int z :: r) w := by
  subst hz
  exact zs_ior hd
theorem zp_ixor {y : Int32} {x : Int32} {z : Int32} (hd : decode (zm_cc j) pc = .ok (.ixor, 1)) (hz : (x ^^^ y) = z) : zx_go d j pc ls (.int y :: .int x :: r) w = zx_go d j (pc + 1) ls (.int z :: r) w := by
  subst hz
  exact zs_ixor hd
theorem zp_idiv {y : Int32} {x : Int32} {z : Int32} (hd : decode (zm_cc j) pc = .ok (.idiv, 1)) (hg : ¬ y = 0) (hz : (x / y) = z) : zx_go d j pc ls (.int y :: .int x :: r) w = zx_go d j (pc + 1) ls (.int z :: r) w := by
  subst hz
  exact zs_idiv hd hg
theorem zp_irem {y : Int32} {x : Int32} {z : Int32} (hd : decode (zm_cc j) pc = .ok (.irem, 1)) (hg : ¬ y = 0) (hz : (x - x / y * y) = z) : zx_go d j pc ls (.int y :: .int x :: r) w = zx_go d j (pc + 1) ls (.int z :: r) w := by
  subst hz
  exact zs_irem hd hg
theorem zp_ishl {y : Int32} {x : Int32} {z : Int32} (hd : decode (zm_cc j) pc = .ok (.ishl, 1)) (hz : (x <<< (y &&& 31)) = z) : zx_go d j pc ls (.int y :: .int x :: r) w = zx_go d j (pc + 1) ls (.int z :: r) w := by
  subst hz
  exact zs_ishl hd
theorem zp_ishr {y : Int32} {x : Int32} {z : Int32} (hd : decode (zm_cc j) pc = .ok (.ishr, 1)) (hz : (x >>> (y &&& 31)) = z) : zx_go d j pc ls (.int y :: .int x :: r) w = zx_go d j (pc + 1) ls (.int z :: r) w := by
  subst hz
  exact zs_ishr hd
theorem zp_iushr {y : Int32} {x : Int32} {z : Int32} (hd : decode (zm_cc j) pc = .ok (.iushr, 1)) (hz : (x.toUInt32 >>> (y.toUInt32 &&& Int32.toUInt32 31)).toInt32 = z) : zx_go d j pc ls (.int y :: .int x :: r) w = zx_go d j (pc + 1) ls (.int z :: r) w := by
  subst hz
  exact zs_iushr hd
theorem zp_ineg {x : Int32} {z : Int32} (hd : decode (zm_cc j) pc = .ok (.ineg, 1)) (hz : (-x) = z) : zx_go d j pc ls (.int x :: r) w = zx_go d j (pc + 1) ls (.int z :: r) w := by
  subst hz
  exact zs_ineg hd
theorem zp_ladd {y : Int64} {x : Int64} {z : Int64} (hd : decode (zm_cc j) pc = .ok (.ladd, 1)) (hz : (x + y) = z) : zx_go d j pc ls (.long y :: .long x :: r) w = zx_go d j (pc + 1) ls (.long z :: r) w := by
  subst hz
  exact zs_ladd hd
theorem zp_lsub {y : Int64} {x : Int64} {z : Int64} (hd : decode (zm_cc j) pc = .ok (.lsub, 1)) (hz : (x - y) = z) : zx_go d j pc ls (.long y :: .long x :: r) w = zx_go d j (pc + 1) ls (.long z :: r) w := by
  subst hz
  exact zs_lsub hd
theorem zp_lmul {y : Int64} {x : Int64} {z : Int64} (hd : decode (zm_cc j) pc = .ok (.lmul, 1)) (hz : (x * y) = z) : zx_go d j pc ls (.long y :: .long x :: r) w = zx_go d j (pc + 1) ls (.long z :: r) w := by
  subst hz
  exact zs_lmul hd
theorem zp_land {y : Int64} {x : Int64} {z : Int64} (hd : decode (zm_cc j) pc = .ok (.land, 1)) (hz : (x &&& y) = z) : zx_go d j pc ls (.long y :: .long x :: r) w = zx_go d j (pc + 1) ls (.long z :: r) w := by
  subst hz
  exact zs_land hd
theorem zp_lor {y : Int64} {x : Int64} {z : Int64} (hd : decode (zm_cc j) pc = .ok (.lor, 1)) (hz : (x ||| y) = z) : zx_go d j pc ls (.long y :: .long x :: r) w = zx_go d j (pc + 1) ls (.long z :: r) w := by
  subst hz
  exact zs_lor hd
theorem zp_lxor {y : Int64} {x : Int64} {z : Int64} (hd : decode (zm_cc j) pc = .ok (.lxor, 1)) (hz : (x ^^^ y) = z) : zx_go d j pc ls (.long y :: .long x :: r) w = zx_go d j (pc + 1) ls (.long z :: r) w := by
  subst hz
  exact zs_lxor hd
theorem zp_ldiv {y : Int64} {x : Int64} {z : Int64} (hd : decode (zm_cc j) pc = .ok (.ldiv, 1)) (hg : ¬ y = 0) (hz : (x / y) = z) : zx_go d j pc ls (.long y :: .long x :: r) w = zx_go d j (pc + 1) ls (.long z :: r) w := by
  subst hz
  exact zs_ldiv hd hg
theorem zp_lrem {y : Int64} {x : Int64} {z : Int64} (hd : decode (zm_cc j) pc = .ok (.lrem, 1)) (hg : ¬ y = 0) (hz : (x - x / y * y) = z) : zx_go d j pc ls (.long y :: .long x :: r) w = zx_go d j (pc + 1) ls (.long z :: r) w := by
  subst hz
  exact zs_lrem hd hg
theorem zp_lneg {x : Int64} {z : Int64} (hd : decode (zm_cc j) pc = .ok (.lneg, 1)) (hz : (-x) = z) : zx_go d j pc ls (.long x :: r) w = zx_go d j (pc + 1) ls (.long z :: r) w := by
  subst hz
  exact zs_lneg hd
theorem zp_lshl {y : Int32} {x : Int64} {z : Int64} (hd : decode (zm_cc j) pc = .ok (.lshl, 1)) (hz : (x <<< (y.toInt64 &&& 63)) = z) : zx_go d j pc ls (.int y :: .long x :: r) w = zx_go d j (pc + 1) ls (.long z :: r) w := by
  subst hz
  exact zs_lshl hd
theorem zp_lshr {y : Int32} {x : Int64} {z : Int64} (hd : decode (zm_cc j) pc = .ok (.lshr, 1)) (hz : (x >>> (y.toInt64 &&& 63)) = z) : zx_go d j pc ls (.int y :: .long x :: r) w = zx_go d j (pc + 1) ls (.long z :: r) w := by
  subst hz
  exact zs_lshr hd
theorem zp_lushr {y : Int32} {x : Int64} {z : Int64} (hd : decode (zm_cc j) pc = .ok (.lushr, 1)) (hz : (x.toUInt64 >>> (y.toInt64.toUInt64 &&& Int64.toUInt64 63)).toInt64 = z) : zx_go d j pc ls (.int y :: .long x :: r) w = zx_go d j (pc + 1) ls (.long z :: r) w := by
  subst hz
  exact zs_lushr hd
theorem zp_lcmp {y : Int64} {x : Int64} {z : Int32} (hd : decode (zm_cc j) pc = .ok (.lcmp, 1)) (hz : (lg_cmp x y) = z) : zx_go d j pc ls (.long y :: .long x :: r) w = zx_go d j (pc + 1) ls (.int z :: r) w := by
  subst hz
  exact zs_lcmp hd
theorem zp_i2l {x : Int32} {z : Int64} (hd : decode (zm_cc j) pc = .ok (.i2l, 1)) (hz : x.toInt64 = z) : zx_go d j pc ls (.int x :: r) w = zx_go d j (pc + 1) ls (.long z :: r) w := by
  subst hz
  exact zs_i2l hd
theorem zp_l2i {x : Int64} {z : Int32} (hd : decode (zm_cc j) pc = .ok (.l2i, 1)) (hz : x.toInt32 = z) : zx_go d j pc ls (.long x :: r) w = zx_go d j (pc + 1) ls (.int z :: r) w := by
  subst hz
  exact zs_l2i hd
theorem zp_i2b {x : Int32} {z : Int32} (hd : decode (zm_cc j) pc = .ok (.i2b, 1)) (hz : x.toInt8.toInt32 = z) : zx_go d j pc ls (.int x :: r) w = zx_go d j (pc + 1) ls (.int z :: r) w := by
  subst hz
  exact zs_i2b hd
theorem zp_i2s {x : Int32} {z : Int32} (hd : decode (zm_cc j) pc = .ok (.i2s, 1)) (hz : x.toInt16.toInt32 = z) : zx_go d j pc ls (.int x :: r) w = zx_go d j (pc + 1) ls (.int z :: r) w := by
  subst hz
  exact zs_i2s hd
theorem zp_i2c {x : Int32} {z : Int32} (hd : decode (zm_cc j) pc = .ok (.i2c, 1)) (hz : (x.toUInt32 % 65536).toInt32 = z) : zx_go d j pc ls (.int x :: r) w = zx_go d j (pc + 1) ls (.int z :: r) w := by
  subst hz
  exact zs_i2c hd
theorem zp_if_eq_t {x : Int32} {off : Int} {t : Nat} (hd : decode (zm_cc j) pc = .ok (.ifCond .eq off, 3)) (ht : zx_to pc off = some t) (hc : (x = 0)) : zx_go d j pc ls (.int x :: r) w = zx_go d j (t) ls r w := (zs_if_eq hd ht).trans (if_pos hc)
theorem zp_icmp_eq_t {x y : Int32} {off : Int} {t : Nat} (hd : decode (zm_cc j) pc = .ok (.if_icmp .eq off, 3)) (ht : zx_to pc off = some t) (hc : (x = y)) : zx_go d j pc ls (.int y :: .int x :: r) w = zx_go d j (t) ls r w := (zs_icmp_eq hd ht).trans (if_pos hc)
theorem zp_if_eq_f {x : Int32} {off : Int} {t : Nat} (hd : decode (zm_cc j) pc = .ok (.ifCond .eq off, 3)) (ht : zx_to pc off = some t) (hc : ¬ (x = 0)) : zx_go d j pc ls (.int x :: r) w = zx_go d j (pc + 3) ls r w := (zs_if_eq hd ht).trans (if_neg hc)
theorem zp_icmp_eq_f {x y : Int32} {off : Int} {t : Nat} (hd : decode (zm_cc j) pc = .ok (.if_icmp .eq off, 3)) (ht : zx_to pc off = some t) (hc : ¬ (x = y)) : zx_go d j pc ls (.int y :: .int x :: r) w = zx_go d j (pc + 3) ls r w := (zs_icmp_eq hd ht).trans (if_neg hc)
theorem zp_if_ne_t {x : Int32} {off : Int} {t : Nat} (hd : decode (zm_cc j) pc = .ok (.ifCond .ne off, 3)) (ht : zx_to pc off = some t) (hc : (¬ x = 0)) : zx_go d j pc ls (.int x :: r) w = zx_go d j (t) ls r w := (zs_if_ne hd ht).trans (if_pos hc)
theorem zp_icmp_ne_t {x y : Int32} {off : Int} {t : Nat} (hd : decode (zm_cc j) pc = .ok (.if_icmp .ne off, 3)) (ht : zx_to pc off = some t) (hc : (¬ x = y)) : zx_go d j pc ls (.int y :: .int x :: r) w = zx_go d j (t) ls r w := (zs_icmp_ne hd ht).trans (if_pos hc)
theorem zp_if_ne_f {x : Int32} {off : Int} {t : Nat} (hd : decode (zm_cc j) pc = .ok (.ifCond .ne off, 3)) (ht : zx_to pc off = some t) (hc : ¬ (¬ x = 0)) : zx_go d j pc ls (.int x :: r) w = zx_go d j (pc + 3) ls r w := (zs_if_ne hd ht).trans (if_neg hc)
theorem zp_icmp_ne_f {x y : Int32} {off : Int} {t : Nat} (hd : decode (zm_cc j) pc = .ok (.if_icmp .ne off, 3)) (ht : zx_to pc off = some t) (hc : ¬ (¬ x = y)) : zx_go d j pc ls (.int y :: .int x :: r) w = zx_go d j (pc + 3) ls r w := (zs_icmp_ne hd ht).trans (if_neg hc)
theorem zp_if_lt_t {x : Int32} {off : Int} {t : Nat} (hd : decode (zm_cc j) pc = .ok (.ifCond .lt off, 3)) (ht : zx_to pc off = some t) (hc : (x < 0)) : zx_go d j pc ls (.int x :: r) w = zx_go d j (t) ls r w := (zs_if_lt hd ht).trans (if_pos hc)
theorem zp_icmp_lt_t {x y : Int32} {off : Int} {t : Nat} (hd : decode (zm_cc j) pc = .ok (.if_icmp .lt off, 3)) (ht : zx_to pc off = some t) (hc : (x < y)) : zx_go d j pc ls (.int y :: .int x :: r) w = zx_go d j (t) ls r w := (zs_icmp_lt hd ht).trans (if_pos hc)
theorem zp_if_lt_f {x : Int32} {off : Int} {t : Nat} (hd : decode (zm_cc j) pc = .ok (.ifCond .lt off, 3)) (ht : zx_to pc off = some t) (hc : ¬ (x < 0)) : zx_go d j pc ls (.int x :: r) w = zx_go d j (pc + 3) ls r w := (zs_if_lt hd ht).trans (if_neg hc)
theorem zp_icmp_lt_f {x y : Int32} {off : Int} {t : Nat} (hd : decode (zm_cc j) pc = .ok (.if_icmp .lt off, 3)) (ht : zx_to pc off = some t) (hc : ¬ (x < y)) : zx_go d j pc ls (.int y :: .int x :: r) w = zx_go d j (pc + 3) ls r w := (zs_icmp_lt hd ht).trans (if_neg hc)
theorem zp_if_ge_t {x : Int32} {off : Int} {t : Nat} (hd : decode (zm_cc j) pc = .ok (.ifCond .ge off, 3)) (ht : zx_to pc off = some t) (hc : (0 ≤ x)) : zx_go d j pc ls (.int x :: r) w = zx_go d j (t) ls r w := (zs_if_ge hd ht).trans (if_pos hc)
theorem zp_icmp_ge_t {x y : Int32} {off : Int} {t : Nat} (hd : decode (zm_cc j) pc = .ok (.if_icmp .ge off, 3)) (ht : zx_to pc off = some t) (hc : (y ≤ x)) : zx_go d j pc ls (.int y :: .int x :: r) w = zx_go d j (t) ls r w := (zs_icmp_ge hd ht).trans (if_pos hc)
theorem zp_if_ge_f {x : Int32} {off : Int} {t : Nat} (hd : decode (zm_cc j) pc = .ok (.ifCond .ge off, 3)) (ht : zx_to pc off = some t) (hc : ¬ (0 ≤ x)) : zx_go d j pc ls (.int x :: r) w = zx_go d j (pc + 3) ls r w := (zs_if_ge hd ht).trans (if_neg hc)
theorem zp_icmp_ge_f {x y : Int32} {off : Int} {t : Nat} (hd : decode (zm_cc j) pc = .ok (.if_icmp .ge off, 3)) (ht : zx_to pc off = some t) (hc : ¬ (y ≤ x)) : zx_go d j pc ls (.int y :: .int x :: r) w = zx_go d j (pc + 3) ls r w := (zs_icmp_ge hd ht).trans (if_neg hc)
theorem zp_if_gt_t {x : Int32} {off : Int} {t : Nat} (hd : decode (zm_cc j) pc = .ok (.ifCond .gt off, 3)) (ht : zx_to pc off = some t) (hc : (0 < x)) : zx_go d j pc ls (.int x :: r) w = zx_go d j (t) ls r w := (zs_if_gt hd ht).trans (if_pos hc)
theorem zp_icmp_gt_t {x y : Int32} {off : Int} {t : Nat} (hd : decode (zm_cc j) pc = .ok (.if_icmp .gt off, 3)) (ht : zx_to pc off = some t) (hc : (y < x)) : zx_go d j pc ls (.int y :: .int x :: r) w = zx_go d j (t) ls r w := (zs_icmp_gt hd ht).trans (if_pos hc)
theorem zp_if_gt_f {x : Int32} {off : Int} {t : Nat} (hd : decode (zm_cc j) pc = .ok (.ifCond .gt off, 3)) (ht : zx_to pc off = some t) (hc : ¬ (0 < x)) : zx_go d j pc ls (.int x :: r) w = zx_go d j (pc + 3) ls r w := (zs_if_gt hd ht).trans (if_neg hc)
theorem zp_icmp_gt_f {x y : Int32} {off : Int} {t : Nat} (hd : decode (zm_cc j) pc = .ok (.if_icmp .gt off, 3)) (ht : zx_to pc off = some t) (hc : ¬ (y < x)) : zx_go d j pc ls (.int y :: .int x :: r) w = zx_go d j (pc + 3) ls r w := (zs_icmp_gt hd ht).trans (if_neg hc)
theorem zp_if_le_t {x : Int32} {off : Int} {t : Nat} (hd : decode (zm_cc j) pc = .ok (.ifCond .le off, 3)) (ht : zx_to pc off = some t) (hc : (x ≤ 0)) : zx_go d j pc ls (.int x :: r) w = zx_go d j (t) ls r w := (zs_if_le hd ht).trans (if_pos hc)
theorem zp_icmp_le_t {x y : Int32} {off : Int} {t : Nat} (hd : decode (zm_cc j) pc = .ok (.if_icmp .le off, 3)) (ht : zx_to pc off = some t) (hc : (x ≤ y)) : zx_go d j pc ls (.int y :: .int x :: r) w = zx_go d j (t) ls r w := (zs_icmp_le hd ht).trans (if_pos hc)
theorem zp_if_le_f {x : Int32} {off : Int} {t : Nat} (hd : decode (zm_cc j) pc = .ok (.ifCond .le off, 3)) (ht : zx_to pc off = some t) (hc : ¬ (x ≤ 0)) : zx_go d j pc ls (.int x :: r) w = zx_go d j (pc + 3) ls r w := (zs_if_le hd ht).trans (if_neg hc)
theorem zp_icmp_le_f {x y : Int32} {off : Int} {t : Nat} (hd : decode (zm_cc j) pc = .ok (.if_icmp .le off, 3)) (ht : zx_to pc off = some t) (hc : ¬ (x ≤ y)) : zx_go d j pc ls (.int y :: .int x :: r) w = zx_go d j (pc + 3) ls r w := (zs_icmp_le hd ht).trans (if_neg hc)
end ZP
section ZPW
variable {d j pc n : Nat} {s : Nat × Nat} {ls : List (Option Value)} {r : List Value} {K : Nat → zx_K} {σ : Nat → Nat → Int32} {τ : Nat → Nat → Int64} {ρ : Nat → Nat → Option Nat}
theorem zp_getI {i c k q : Nat} {v : Int32} (hd : decode (zm_cc j) pc = .ok (.getfield i, 3)) (hl : zl_f (zm_o j) i = some (c, k)) (ht : zt_ty c k = .int) (hK : K q = .inl c) (hq : q < n) (hv : σ q k = v) : zx_go d j pc ls (.ref q :: r) ((n, s), K, σ, τ, ρ) = zx_go d j (pc + 3) ls (.int v :: r) ((n, s), K, σ, τ, ρ) := by
  subst hv
  exact zs_getI hd hl ht hK hq
theorem zp_getZ {i c k q : Nat} {v : Int32} (hd : decode (zm_cc j) pc = .ok (.getfield i, 3)) (hl : zl_f (zm_o j) i = some (c, k)) (ht : zt_ty c k = .boolean) (hK : K q = .inl c) (hq : q < n) (hv : σ q k = v) : zx_go d j pc ls (.ref q :: r) ((n, s), K, σ, τ, ρ) = zx_go d j (pc + 3) ls (.int v :: r) ((n, s), K, σ, τ, ρ) := by
  subst hv
  exact zs_getZ hd hl ht hK hq
theorem zp_getL {i c k q : Nat} {v : Int64} (hd : decode (zm_cc j) pc = .ok (.getfield i, 3)) (hl : zl_f (zm_o j) i = some (c, k)) (ht : zt_ty c k = .long) (hK : K q = .inl c) (hq : q < n) (hv : τ q k = v) : zx_go d j pc ls (.ref q :: r) ((n, s), K, σ, τ, ρ) = zx_go d j (pc + 3) ls (.long v :: r) ((n, s), K, σ, τ, ρ) := by
  subst hv
  exact zs_getL hd hl ht hK hq
theorem zp_iaload {q m k : Nat} {i : Int32} {v : Int32} (hd : decode (zm_cc j) pc = .ok (.iaload, 1)) (hK : K q = .inr (.int, m)) (hq : q < n) (hi : zx_ins i m = true) (hk : i.toNatClampNeg = k) (hv : σ q k = v) : zx_go d j pc ls (.int i :: .ref q :: r) ((n, s), K, σ, τ, ρ) = zx_go d j (pc + 1) ls (.int v :: r) ((n, s), K, σ, τ, ρ) := by
  subst hk
  subst hv
  exact zs_iaload hd hK hq hi
theorem zp_laload {q m k : Nat} {i : Int32} {v : Int64} (hd : decode (zm_cc j) pc = .ok (.laload, 1)) (hK : K q = .inr (.long, m)) (hq : q < n) (hi : zx_ins i m = true) (hk : i.toNatClampNeg = k) (hv : τ q k = v) : zx_go d j pc ls (.int i :: .ref q :: r) ((n, s), K, σ, τ, ρ) = zx_go d j (pc + 1) ls (.long v :: r) ((n, s), K, σ, τ, ρ) := by
  subst hk
  subst hv
  exact zs_laload hd hK hq hi
theorem zp_baload {q m k : Nat} {i : Int32} {v : Int32} (hd : decode (zm_cc j) pc = .ok (.baload, 1)) (hK : K q = .inr (.byte, m)) (hq : q < n) (hi : zx_ins i m = true) (hk : i.toNatClampNeg = k) (hv : σ q k = v) : zx_go d j pc ls (.int i :: .ref q :: r) ((n, s), K, σ, τ, ρ) = zx_go d j (pc + 1) ls (.int v :: r) ((n, s), K, σ, τ, ρ) := by
  subst hk
  subst hv
  exact zs_baload hd hK hq hi
theorem zp_zaload {q m k : Nat} {i : Int32} {v : Int32} (hd : decode (zm_cc j) pc = .ok (.baload, 1)) (hK : K q = .inr (.boolean, m)) (hq : q < n) (hi : zx_ins i m = true) (hk : i.toNatClampNeg = k) (hv : σ q k = v) : zx_go d j pc ls (.int i :: .ref q :: r) ((n, s), K, σ, τ, ρ) = zx_go d j (pc + 1) ls (.int v :: r) ((n, s), K, σ, τ, ρ) := by
  subst hk
  subst hv
  exact zs_zaload hd hK hq hi
theorem zp_iastore {q m k : Nat} {i : Int32} {x z : Int32} (hd : decode (zm_cc j) pc = .ok (.iastore, 1)) (hK : K q = .inr (.int, m)) (hq : 2 ≤ q ∧ q < n) (hi : zx_ins i m = true) (hk : i.toNatClampNeg = k) (hz : x = z) : zx_go d j pc ls (.int x :: .int i :: .ref q :: r) ((n, s), K, σ, τ, ρ) = zx_go d j (pc + 1) ls r ((n, s), K, zx_up σ q k z, τ, ρ) := by
  subst hk
  subst hz
  exact zs_iastore hd hK hq hi
theorem zp_lastore {q m k : Nat} {i : Int32} {x z : Int64} (hd : decode (zm_cc j) pc = .ok (.lastore, 1)) (hK : K q = .inr (.long, m)) (hq : 2 ≤ q ∧ q < n) (hi : zx_ins i m = true) (hk : i.toNatClampNeg = k) (hz : x = z) : zx_go d j pc ls (.long x :: .int i :: .ref q :: r) ((n, s), K, σ, τ, ρ) = zx_go d j (pc + 1) ls r ((n, s), K, σ, zx_up τ q k z, ρ) := by
  subst hk
  subst hz
  exact zs_lastore hd hK hq hi
theorem zp_bastore {q m k : Nat} {i : Int32} {x z : Int32} (hd : decode (zm_cc j) pc = .ok (.bastore, 1)) (hK : K q = .inr (.byte, m)) (hq : 2 ≤ q ∧ q < n) (hi : zx_ins i m = true) (hk : i.toNatClampNeg = k) (hz : x.toInt8.toInt32 = z) : zx_go d j pc ls (.int x :: .int i :: .ref q :: r) ((n, s), K, σ, τ, ρ) = zx_go d j (pc + 1) ls r ((n, s), K, zx_up σ q k z, τ, ρ) := by
  subst hk
  subst hz
  exact zs_bastore hd hK hq hi
theorem zp_zastore {q m k : Nat} {i : Int32} {x z : Int32} (hd : decode (zm_cc j) pc = .ok (.bastore, 1)) (hK : K q = .inr (.boolean, m)) (hq : 2 ≤ q ∧ q < n) (hi : zx_ins i m = true) (hk : i.toNatClampNeg = k) (hz : x &&& 1 = z) : zx_go d j pc ls (.int x :: .int i :: .ref q :: r) ((n, s), K, σ, τ, ρ) = zx_go d j (pc + 1) ls r ((n, s), K, zx_up σ q k z, τ, ρ) := by
  subst hk
  subst hz
  exact zs_zastore hd hK hq hi
end ZPW
theorem zp_callVv {d e j pc i k : Nat} {ls ls1 : List (Option Value)} {st as rest : List Value} {w w2 : zx_W} (hd : decode (zm_cc j) pc = .ok (.invokevirtual i, 3)) (ht : zx_tg (zm_o j) i = some k) (hk : zx_ck k = 0) (hkn : k < 264) (hn : zx_na k = as.length) (hst : st = as.reverse ++ rest) (hc : (rest.map fun v => v.category).sum ≤ 8) (hr : zx_rcb 0 k as w = true) (ha : (zx_sl as).length ≤ zm_L k) (hl : zx_entry k as = ls1) (he : e ≤ d) (hu : zx_go e k 0 ls1 [] w = some (none, w2)) : zx_go (d + 1) j pc ls st w = zx_go (d + 1) j (pc + 3) ls (rest) w2 := by
  subst hl
  exact zs_callV hd ht hk hkn hn hst hc hr ha he hu
theorem zp_callVi {d e j pc i k : Nat} {x : Int32} {ls ls1 : List (Option Value)} {st as rest : List Value} {w w2 : zx_W} (hd : decode (zm_cc j) pc = .ok (.invokevirtual i, 3)) (ht : zx_tg (zm_o j) i = some k) (hk : zx_ck k = 0) (hkn : k < 264) (hn : zx_na k = as.length) (hst : st = as.reverse ++ rest) (hc : (rest.map fun v => v.category).sum ≤ 8) (hr : zx_rcb 0 k as w = true) (ha : (zx_sl as).length ≤ zm_L k) (hl : zx_entry k as = ls1) (he : e ≤ d) (hu : zx_go e k 0 ls1 [] w = some (some (.int x), w2)) : zx_go (d + 1) j pc ls st w = zx_go (d + 1) j (pc + 3) ls (.int x :: rest) w2 := by
  subst hl
  exact zs_callV hd ht hk hkn hn hst hc hr ha he hu
theorem zp_callSv {d e j pc i k : Nat} {ls ls1 : List (Option Value)} {st as rest : List Value} {w w2 : zx_W} (hd : decode (zm_cc j) pc = .ok (.invokestatic i, 3)) (ht : zx_tg (zm_o j) i = some k) (hk : zx_ck k = 2) (hkn : k < 264) (hn : zx_na k = as.length) (hst : st = as.reverse ++ rest) (hc : (rest.map fun v => v.category).sum ≤ 8) (hr : zx_rcb 2 k as w = true) (ha : (zx_sl as).length ≤ zm_L k) (hl : zx_entry k as = ls1) (he : e ≤ d) (hu : zx_go e k 0 ls1 [] w = some (none, w2)) : zx_go (d + 1) j pc ls st w = zx_go (d + 1) j (pc + 3) ls (rest) w2 := by
  subst hl
  exact zs_callS hd ht hk hkn hn hst hc hr ha he hu
theorem zp_callSi {d e j pc i k : Nat} {x : Int32} {ls ls1 : List (Option Value)} {st as rest : List Value} {w w2 : zx_W} (hd : decode (zm_cc j) pc = .ok (.invokestatic i, 3)) (ht : zx_tg (zm_o j) i = some k) (hk : zx_ck k = 2) (hkn : k < 264) (hn : zx_na k = as.length) (hst : st = as.reverse ++ rest) (hc : (rest.map fun v => v.category).sum ≤ 8) (hr : zx_rcb 2 k as w = true) (ha : (zx_sl as).length ≤ zm_L k) (hl : zx_entry k as = ls1) (he : e ≤ d) (hu : zx_go e k 0 ls1 [] w = some (some (.int x), w2)) : zx_go (d + 1) j pc ls st w = zx_go (d + 1) j (pc + 3) ls (.int x :: rest) w2 := by
  subst hl
  exact zs_callS hd ht hk hkn hn hst hc hr ha he hu
/-- the law's own feed and end -/
theorem zp_lawF {d e pc i x o : Nat} {p0 p1 p2 p3 p4 v r : Int32} {ls ls1 : List (Option Value)} {rest : List Value} {n : Nat} {s : Nat × Nat} {K : Nat → zx_K} {σ : Nat → Nat → Int32} {τ : Nat → Nat → Int64} {ρ : Nat → Nat → Option Nat} {w2 : zx_W} (hd : decode (zm_cc 264) pc = .ok (.invokestatic i, 3)) (ht : zx_tg (zm_o 264) i = some 1003) (hc : (rest.map fun v => v.category).sum ≤ 8) (hv : σ x 11 = v) (hno : ¬ (v < 0 ∨ 1500 < v + 20)) (hl : zx_entry 265 [.ref x, .int p0, .int p1, .int p2, .int p3, .int p4, .ref o] = ls1) (he : e ≤ d) (hu : zx_go e 265 0 ls1 [] ((n, s), K, σ, τ, ρ) = some (some (.int r), w2)) : zx_go (d + 1) 264 pc ls (.ref o :: .int p4 :: .int p3 :: .int p2 :: .int p1 :: .int p0 :: .ref x :: rest) ((n, s), K, σ, τ, ρ) = zx_go (d + 1) 264 (pc + 3) ls (.int r :: rest) w2 := by
  subst hl
  refine zx_go_law (k := 1003) (as := [.ref x, .int p0, .int p1, .int p2, .int p3, .int p4, .ref o]) (rest := rest) ((zs_at hd rfl).trans (zs_inv ht rfl rfl rfl hc rfl)) (Or.inl rfl) ?_ (Nat.le_of_ble_eq_true rfl) he hu
  intro h
  have h1 := (zx_thrb_ok h).2.2.2
  have h2 : σ x 11 < 0 ∨ 1500 < σ x 11 + 20 := h1
  rw [hv] at h2
  exact hno h2
theorem zp_lawFt {d pc i x o : Nat} {p0 p1 p2 p3 p4 v : Int32} {ls : List (Option Value)} {rest : List Value} {n : Nat} {a b : Nat} {K : Nat → zx_K} {σ : Nat → Nat → Int32} {τ : Nat → Nat → Int64} {ρ : Nat → Nat → Option Nat} (hd : decode (zm_cc 264) pc = .ok (.invokestatic i, 3)) (ht : zx_tg (zm_o 264) i = some 1003) (hc : (rest.map fun v => v.category).sum ≤ 8) (hK : K x = .inl 11) (hn : x < n) (h9 : ¬ n < 119) (hv : σ x 11 = v) (hno : v < 0 ∨ 1500 < v + 20) (h8 : 8 ≤ d) : zx_go (d + 1) 264 pc ls (.ref o :: .int p4 :: .int p3 :: .int p2 :: .int p1 :: .int p0 :: .ref x :: rest) ((n, a, b), K, σ, τ, ρ) = zx_go (d + 1) 264 (pc + 3) ls (.int 1 :: rest) ((n, a + 1, b + 6), K, σ, τ, ρ) := by
  subst hv
  exact zx_go_thr (k := 1003) (as := [.ref x, .int p0, .int p1, .int p2, .int p3, .int p4, .ref o]) (rest := rest) ((zs_at hd rfl).trans (zs_inv ht rfl rfl rfl hc rfl)) (Or.inl rfl) (decide_eq_true ⟨rfl, ⟨hK, hn⟩, h9, hno⟩) h8
theorem zp_lawE {d e pc i x : Nat} {m v r : Int32} {ls ls1 : List (Option Value)} {rest : List Value} {n : Nat} {s : Nat × Nat} {K : Nat → zx_K} {σ : Nat → Nat → Int32} {τ : Nat → Nat → Int64} {ρ : Nat → Nat → Option Nat} {w2 : zx_W} (hd : decode (zm_cc 264) pc = .ok (.invokestatic i, 3)) (ht : zx_tg (zm_o 264) i = some 1004) (hc : (rest.map fun v => v.category).sum ≤ 8) (hv : σ x 11 = v) (hno : ¬ (m < 0 ∨ v < m)) (hl : zx_entry 266 [.ref x, .int m] = ls1) (he : e ≤ d) (hu : zx_go e 266 0 ls1 [] ((n, s), K, σ, τ, ρ) = some (some (.int r), w2)) : zx_go (d + 1) 264 pc ls (.int m :: .ref x :: rest) ((n, s), K, σ, τ, ρ) = zx_go (d + 1) 264 (pc + 3) ls (.int r :: rest) w2 := by
  subst hl
  refine zx_go_law (k := 1004) (as := [.ref x, .int m]) (rest := rest) ((zs_at hd rfl).trans (zs_inv ht rfl rfl rfl hc rfl)) (Or.inr rfl) ?_ (Nat.le_of_ble_eq_true rfl) he hu
  intro h
  have h1 := (zx_thrb_ok h).2.2.2
  have h2 : m < 0 ∨ σ x 11 < m := h1
  rw [hv] at h2
  exact hno h2
theorem zp_lawEt {d pc i x : Nat} {m v : Int32} {ls : List (Option Value)} {rest : List Value} {n : Nat} {a b : Nat} {K : Nat → zx_K} {σ : Nat → Nat → Int32} {τ : Nat → Nat → Int64} {ρ : Nat → Nat → Option Nat} (hd : decode (zm_cc 264) pc = .ok (.invokestatic i, 3)) (ht : zx_tg (zm_o 264) i = some 1004) (hc : (rest.map fun v => v.category).sum ≤ 8) (hK : K x = .inl 11) (hn : x < n) (h9 : ¬ n < 119) (hv : σ x 11 = v) (hno : m < 0 ∨ v < m) (h8 : 8 ≤ d) : zx_go (d + 1) 264 pc ls (.int m :: .ref x :: rest) ((n, a, b), K, σ, τ, ρ) = zx_go (d + 1) 264 (pc + 3) ls (.int 1 :: rest) ((n, a + 1, b + 6), K, σ, τ, ρ) := by
  subst hv
  exact zx_go_thr (k := 1004) (as := [.ref x, .int m]) (rest := rest) ((zs_at hd rfl).trans (zs_inv ht rfl rfl rfl hc rfl)) (Or.inr rfl) (decide_eq_true ⟨rfl, ⟨hK, hn⟩, h9, hno⟩) h8
