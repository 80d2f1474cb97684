/-! theorems of the functions, by program -/
set_option maxRecDepth 20000 in
theorem zt_X_putBytes_3 {a b L N : Nat} : ∀ {n : Nat} {σ : zS} {τ : zT} {v1 : Int32} {v2 : Int32} {r : zS}, zb_X_putBytes_3 N n σ v1 v2 = some r → zx_go 0 14 3 [some (.ref 2), some (.int v1), some (.int v2)] [] ((119, a, b), zx_pk (zK L) 119, σ, τ, zR) = some (none, ((119, a, b), zx_pk (zK L) 119, r, τ, zR)) := by
  intro n
  induction n with
  | zero =>
    intro _ _ _ _ _ H
    cases H
  | succ n ih =>
    intro σ τ v1 v2 r H
    rw [zb_X_putBytes_3] at H
    rw [zs_iload_n (ls := [some (.ref 2), some (.int v1), some (.int v2)]) zd_14_3 rfl]
    by_cases c1 : v2 < 0
    · rw [if_pos c1] at H
      rw [zp_if_lt_t (x := v2) (t := 46) zd_14_4 rfl c1]
      have H := Option.some.inj H
      subst H
      exact zs_return zd_14_46 (by decide +kernel)
    · rw [if_neg c1] at H
      rw [zp_if_lt_f (x := v2) (t := 46) zd_14_4 rfl c1]
      rw [zs_aload_n (ls := [some (.ref 2), some (.int v1), some (.int v2)]) zd_14_7 rfl]
      rw [zp_getI (n := 119) (K := zx_pk (zK L) 119) (σ := σ) (c := 11) (k := 11) (q := 2) (v := (σ 2 11)) zd_14_8 rfl rfl rfl (by decide) rfl]
      rw [zs_sipush (z := 1500) zd_14_11 (by decide)]
      by_cases c2 : 1500 ≤ (σ 2 11)
      · rw [if_pos c2] at H
        rw [zp_icmp_ge_t (x := (σ 2 11)) (y := 1500) (t := 46) zd_14_14 rfl c2]
        have H := Option.some.inj H
        subst H
        exact zs_return zd_14_46 (by decide +kernel)
      · rw [if_neg c2] at H
        rw [zp_icmp_ge_f (x := (σ 2 11)) (y := 1500) (t := 46) zd_14_14 rfl c2]
        rw [zs_aload_n (ls := [some (.ref 2), some (.int v1), some (.int v2)]) zd_14_17 rfl]
        rw [zs_getR (n := 119) (K := zx_pk (zK L) 119) (ρ := zR) (c := 11) (k := 0) (q := 2) (p := 3) zd_14_18 rfl rfl rfl (by decide) rfl]
        rw [zs_aload_n (ls := [some (.ref 2), some (.int v1), some (.int v2)]) zd_14_21 rfl]
        rw [zp_getI (n := 119) (K := zx_pk (zK L) 119) (σ := σ) (c := 11) (k := 11) (q := 2) (v := (σ 2 11)) zd_14_22 rfl rfl rfl (by decide) rfl]
        rw [zs_iload_n (ls := [some (.ref 2), some (.int v1), some (.int v2)]) zd_14_25 rfl]
        rw [zs_iload_n (ls := [some (.ref 2), some (.int v1), some (.int v2)]) zd_14_26 rfl]
        rw [zp_iushr (x := v1) (y := v2) (z := (zJ_ushr v1 v2)) zd_14_27 rfl]
        rw [zp_i2b (x := (zJ_ushr v1 v2)) (z := (zJ_byte (zJ_ushr v1 v2))) zd_14_28 rfl]
        by_cases c3 : 0 ≤ (σ 2 11) ∧ (σ 2 11) < 1500
        · rw [if_pos c3] at H
          rw [zp_bastore (n := 119) (K := zx_pk (zK L) 119) (q := 3) (m := 1500) (i := (σ 2 11)) (k := (σ 2 11).toNatClampNeg) (x := (zJ_byte (zJ_ushr v1 v2))) (z := (zJ_byte (zJ_byte (zJ_ushr v1 v2)))) zd_14_29 rfl ⟨by decide, by decide⟩ (zJ_in c3 rfl) rfl rfl]
          rw [zs_aload_n (ls := [some (.ref 2), some (.int v1), some (.int v2)]) zd_14_30 rfl]
          rw [zs_dup (a := .ref 2) zd_14_31 rfl]
          rw [zp_getI (n := 119) (K := zx_pk (zK L) 119) (σ := (zx_up σ 3 (σ 2 11).toNatClampNeg (zJ_byte (zJ_byte (zJ_ushr v1 v2))))) (c := 11) (k := 11) (q := 2) (v := (σ 2 11)) zd_14_32 rfl rfl rfl (by decide) (show ((zx_up σ 3 (σ 2 11).toNatClampNeg (zJ_byte (zJ_byte (zJ_ushr v1 v2)))) : zS) 2 11 = (σ 2 11) from ((zx_up_ne (by decide)).trans rfl))]
          rw [zs_iconst (z := 1) zd_14_35 (by decide)]
          rw [zp_iadd (x := (σ 2 11)) (y := 1) (z := ((σ 2 11) + 1)) zd_14_36 rfl]
          rw [zs_putI (n := 119) (K := zx_pk (zK L) 119) (c := 11) (k := 11) (q := 2) (x := ((σ 2 11) + 1)) zd_14_37 rfl rfl (by decide +kernel) rfl (by decide)]
          rw [zs_iinc (ls := [some (.ref 2), some (.int v1), some (.int v2)]) (x := v2) (z := (v2 + (-8))) (ls' := [some (.ref 2), some (.int v1), some (.int (v2 + (-8)))]) zd_14_40 rfl rfl rfl]
          rw [zs_goto (t := 3) zd_14_43 rfl]
          exact ih H
        · rw [if_neg c3] at H
          cases H
set_option maxRecDepth 20000 in
theorem zt_X_putBytes {a b L N : Nat} {σ : zS} {τ : zT} {x1 : Int32} {r : zS} (H : zf_X_putBytes N σ x1 = some r) : zx_go 0 14 0 [some (.ref 2), some (.int x1), none] [] ((119, a, b), zx_pk (zK L) 119, σ, τ, zR) = some (none, ((119, a, b), zx_pk (zK L) 119, r, τ, zR)) := by
  unfold zf_X_putBytes at H
  rw [zs_bipush (z := 24) zd_14_0 (by decide)]
  rw [zs_istore_n (x := 24) (ls' := [some (.ref 2), some (.int x1), some (.int 24)]) zd_14_2 (Nat.le_of_ble_eq_true rfl) rfl]
  exact zt_X_putBytes_3  H
set_option maxRecDepth 20000 in
theorem zt_X_feed_20 {a b L N : Nat} {σ : zS} {τ : zT} {o0 : Option Value} {o1 : Option Value} {o2 : Option Value} {o3 : Option Value} {o4 : Option Value} {o5 : Option Value} {r : Int32 × zS} (H : zb_X_feed_20 N σ = some r) : zx_go 1 13 20 [o0, o1, o2, o3, o4, o5] [] ((119, a, b), zx_pk (zK L) 119, σ, τ, zR) = some (some (.int r.1), ((119, a, b), zx_pk (zK L) 119, r.2, τ, zR)) := by
  unfold zb_X_feed_20 at H
  cases H
set_option maxRecDepth 20000 in
theorem zt_X_feed {a b L N : Nat} {σ : zS} {τ : zT} {x1 : Int32} {x2 : Int32} {x3 : Int32} {x4 : Int32} {x5 : Int32} {r : Int32 × zS} (H : zf_X_feed N σ x1 x2 x3 x4 x5 = some r) : zx_go 1 13 0 [some (.ref 2), some (.int x1), some (.int x2), some (.int x3), some (.int x4), some (.int x5)] [] ((119, a, b), zx_pk (zK L) 119, σ, τ, zR) = some (some (.int r.1), ((119, a, b), zx_pk (zK L) 119, r.2, τ, zR)) := by
  unfold zf_X_feed at H
  rw [zs_aload_n (ls := [some (.ref 2), some (.int x1), some (.int x2), some (.int x3), some (.int x4), some (.int x5)]) zd_13_0 rfl]
  rw [zp_getI (n := 119) (K := zx_pk (zK L) 119) (σ := σ) (c := 11) (k := 11) (q := 2) (v := (σ 2 11)) zd_13_1 rfl rfl rfl (by decide) rfl]
  by_cases c1 : (σ 2 11) < 0
  · rw [if_pos c1] at H
    rw [zp_if_lt_t (x := (σ 2 11)) (t := 20) zd_13_4 rfl c1]
    exact zt_X_feed_20  H
  · rw [if_neg c1] at H
    rw [zp_if_lt_f (x := (σ 2 11)) (t := 20) zd_13_4 rfl c1]
    rw [zs_aload_n (ls := [some (.ref 2), some (.int x1), some (.int x2), some (.int x3), some (.int x4), some (.int x5)]) zd_13_7 rfl]
    rw [zp_getI (n := 119) (K := zx_pk (zK L) 119) (σ := σ) (c := 11) (k := 11) (q := 2) (v := (σ 2 11)) zd_13_8 rfl rfl rfl (by decide) rfl]
    rw [zs_bipush (z := 20) zd_13_11 (by decide)]
    rw [zp_iadd (x := (σ 2 11)) (y := 20) (z := ((σ 2 11) + 20)) zd_13_13 rfl]
    rw [zs_sipush (z := 1500) zd_13_14 (by decide)]
    by_cases c2 : ((σ 2 11) + 20) ≤ 1500
    · rw [if_pos c2] at H
      rw [zp_icmp_le_t (x := ((σ 2 11) + 20)) (y := 1500) (t := 30) zd_13_17 rfl c2]
      rw [zs_aload_n (ls := [some (.ref 2), some (.int x1), some (.int x2), some (.int x3), some (.int x4), some (.int x5)]) zd_13_30 rfl]
      rw [zs_iload_n (ls := [some (.ref 2), some (.int x1), some (.int x2), some (.int x3), some (.int x4), some (.int x5)]) zd_13_31 rfl]
      obtain ⟨r3, hr3, H⟩ := Option.bind_eq_some_iff.mp H
      rw [zp_callVv (st := [.int x1, .ref 2]) (as := [.ref 2, .int x1]) (rest := []) (e := 0) zd_13_32 rfl (by decide +kernel) (by decide) rfl rfl (Nat.le_of_ble_eq_true rfl) (zx_rcb_ok rfl (show 2 < 119 by decide)) (Nat.le_of_ble_eq_true rfl) rfl (by decide) (zt_X_putBytes hr3)]
      rw [zs_aload_n (ls := [some (.ref 2), some (.int x1), some (.int x2), some (.int x3), some (.int x4), some (.int x5)]) zd_13_35 rfl]
      rw [zs_iload_n (ls := [some (.ref 2), some (.int x1), some (.int x2), some (.int x3), some (.int x4), some (.int x5)]) zd_13_36 rfl]
      obtain ⟨r4, hr4, H⟩ := Option.bind_eq_some_iff.mp H
      rw [zp_callVv (st := [.int x2, .ref 2]) (as := [.ref 2, .int x2]) (rest := []) (e := 0) zd_13_37 rfl (by decide +kernel) (by decide) rfl rfl (Nat.le_of_ble_eq_true rfl) (zx_rcb_ok rfl (show 2 < 119 by decide)) (Nat.le_of_ble_eq_true rfl) rfl (by decide) (zt_X_putBytes hr4)]
      rw [zs_aload_n (ls := [some (.ref 2), some (.int x1), some (.int x2), some (.int x3), some (.int x4), some (.int x5)]) zd_13_40 rfl]
      rw [zs_iload_n (ls := [some (.ref 2), some (.int x1), some (.int x2), some (.int x3), some (.int x4), some (.int x5)]) zd_13_41 rfl]
      obtain ⟨r5, hr5, H⟩ := Option.bind_eq_some_iff.mp H
      rw [zp_callVv (st := [.int x3, .ref 2]) (as := [.ref 2, .int x3]) (rest := []) (e := 0) zd_13_42 rfl (by decide +kernel) (by decide) rfl rfl (Nat.le_of_ble_eq_true rfl) (zx_rcb_ok rfl (show 2 < 119 by decide)) (Nat.le_of_ble_eq_true rfl) rfl (by decide) (zt_X_putBytes hr5)]
      rw [zs_aload_n (ls := [some (.ref 2), some (.int x1), some (.int x2), some (.int x3), some (.int x4), some (.int x5)]) zd_13_45 rfl]
      rw [zs_iload (ls := [some (.ref 2), some (.int x1), some (.int x2), some (.int x3), some (.int x4), some (.int x5)]) zd_13_46 rfl]
      obtain ⟨r6, hr6, H⟩ := Option.bind_eq_some_iff.mp H
      rw [zp_callVv (st := [.int x4, .ref 2]) (as := [.ref 2, .int x4]) (rest := []) (e := 0) zd_13_48 rfl (by decide +kernel) (by decide) rfl rfl (Nat.le_of_ble_eq_true rfl) (zx_rcb_ok rfl (show 2 < 119 by decide)) (Nat.le_of_ble_eq_true rfl) rfl (by decide) (zt_X_putBytes hr6)]
      rw [zs_aload_n (ls := [some (.ref 2), some (.int x1), some (.int x2), some (.int x3), some (.int x4), some (.int x5)]) zd_13_51 rfl]
      rw [zs_iload (ls := [some (.ref 2), some (.int x1), some (.int x2), some (.int x3), some (.int x4), some (.int x5)]) zd_13_52 rfl]
      obtain ⟨r7, hr7, H⟩ := Option.bind_eq_some_iff.mp H
      rw [zp_callVv (st := [.int x5, .ref 2]) (as := [.ref 2, .int x5]) (rest := []) (e := 0) zd_13_54 rfl (by decide +kernel) (by decide) rfl rfl (Nat.le_of_ble_eq_true rfl) (zx_rcb_ok rfl (show 2 < 119 by decide)) (Nat.le_of_ble_eq_true rfl) rfl (by decide) (zt_X_putBytes hr7)]
      rw [zs_aload_n (ls := [some (.ref 2), some (.int x1), some (.int x2), some (.int x3), some (.int x4), some (.int x5)]) zd_13_57 rfl]
      rw [zp_getI (n := 119) (K := zx_pk (zK L) 119) (σ := r7) (c := 11) (k := 11) (q := 2) (v := (r7 2 11)) zd_13_58 rfl rfl rfl (by decide) rfl]
      have H := Option.some.inj H
      subst H
      exact zs_ireturn zd_13_61 rfl
    · rw [if_neg c2] at H
      rw [zp_icmp_le_f (x := ((σ 2 11) + 20)) (y := 1500) (t := 30) zd_13_17 rfl c2]
      exact zt_X_feed_20  H
set_option maxRecDepth 20000 in
theorem zt_M_feed_87 {a b L N : Nat} {k34 : zS → Int32 → Int32 → Int32 → Int32 → Int32 → Int32 → Option (Int32 × zS)} (hk34 : ∀ {σ : zS} {τ : zT} {v1 : Int32} {v2 : Int32} {v3 : Int32} {v4 : Int32} {v5 : Int32} {v6 : Int32} {o7 : Option Value} {r : Int32 × zS}, k34 σ v1 v2 v3 v4 v5 v6 = some r → zx_go 0 15 34 [some (.ref 82), some (.int v1), some (.int v2), some (.int v3), some (.int v4), some (.int v5), some (.int v6), o7] [] ((119, a, b), zx_pk (zK L) 119, σ, τ, zR) = some (some (.int r.1), ((119, a, b), zx_pk (zK L) 119, r.2, τ, zR))) {σ : zS} {τ : zT} {v1 : Int32} {v2 : Int32} {v3 : Int32} {v4 : Int32} {v5 : Int32} {v6 : Int32} {s0 : Int32} {o7 : Option Value} {r : Int32 × zS} (H : zb_M_feed_87 k34 N σ v1 v2 v3 v4 v5 v6 s0 = some r) : zx_go 0 15 87 [some (.ref 82), some (.int v1), some (.int v2), some (.int v3), some (.int v4), some (.int v5), some (.int v6), o7] [.int s0] ((119, a, b), zx_pk (zK L) 119, σ, τ, zR) = some (some (.int r.1), ((119, a, b), zx_pk (zK L) 119, r.2, τ, zR)) := by
  unfold zb_M_feed_87 at H
  rw [zs_istore (x := s0) (ls' := [some (.ref 82), some (.int v1), some (.int v2), some (.int v3), some (.int v4), some (.int v5), some (.int v6), some (.int s0)]) zd_15_87 (Nat.le_of_ble_eq_true rfl) rfl]
  rw [zs_aload_n (ls := [some (.ref 82), some (.int v1), some (.int v2), some (.int v3), some (.int v4), some (.int v5), some (.int v6), some (.int s0)]) zd_15_89 rfl]
  rw [zs_getR (n := 119) (K := zx_pk (zK L) 119) (ρ := zR) (c := 12) (k := 1) (q := 82) (p := 83) zd_15_90 rfl rfl rfl (by decide) rfl]
  rw [zs_aload_n (ls := [some (.ref 82), some (.int v1), some (.int v2), some (.int v3), some (.int v4), some (.int v5), some (.int v6), some (.int s0)]) zd_15_93 rfl]
  rw [zp_getI (n := 119) (K := zx_pk (zK L) 119) (σ := σ) (c := 12) (k := 2) (q := 82) (v := (σ 82 2)) zd_15_94 rfl rfl rfl (by decide) rfl]
  rw [zs_iload (ls := [some (.ref 82), some (.int v1), some (.int v2), some (.int v3), some (.int v4), some (.int v5), some (.int v6), some (.int s0)]) zd_15_97 rfl]
  rw [zs_bipush (z := 24) zd_15_99 (by decide)]
  rw [zs_bipush (z := 8) zd_15_101 (by decide)]
  rw [zs_iload (ls := [some (.ref 82), some (.int v1), some (.int v2), some (.int v3), some (.int v4), some (.int v5), some (.int v6), some (.int s0)]) zd_15_103 rfl]
  rw [zs_iconst (z := 4) zd_15_105 (by decide)]
  rw [zp_irem (x := v6) (y := 4) (z := (zJ_rem v6 4)) zd_15_106 (by decide) rfl]
  rw [zp_imul (x := 8) (y := (zJ_rem v6 4)) (z := (8 * (zJ_rem v6 4))) zd_15_107 rfl]
  rw [zp_isub (x := 24) (y := (8 * (zJ_rem v6 4))) (z := (24 - (8 * (zJ_rem v6 4)))) zd_15_108 rfl]
  rw [zp_ishr (x := s0) (y := (24 - (8 * (zJ_rem v6 4)))) (z := (zJ_shr s0 (24 - (8 * (zJ_rem v6 4))))) zd_15_109 rfl]
  rw [zp_i2b (x := (zJ_shr s0 (24 - (8 * (zJ_rem v6 4))))) (z := (zJ_byte (zJ_shr s0 (24 - (8 * (zJ_rem v6 4)))))) zd_15_110 rfl]
  by_cases c8 : 0 ≤ (σ 82 2) ∧ (σ 82 2) < 1500
  · rw [if_pos c8] at H
    rw [zp_bastore (n := 119) (K := zx_pk (zK L) 119) (q := 83) (m := 1500) (i := (σ 82 2)) (k := (σ 82 2).toNatClampNeg) (x := (zJ_byte (zJ_shr s0 (24 - (8 * (zJ_rem v6 4)))))) (z := (zJ_byte (zJ_byte (zJ_shr s0 (24 - (8 * (zJ_rem v6 4))))))) zd_15_111 rfl ⟨by decide, by decide⟩ (zJ_in c8 rfl) rfl rfl]
    rw [zs_aload_n (ls := [some (.ref 82), some (.int v1), some (.int v2), some (.int v3), some (.int v4), some (.int v5), some (.int v6), some (.int s0)]) zd_15_112 rfl]
    rw [zs_dup (a := .ref 82) zd_15_113 rfl]
    rw [zp_getI (n := 119) (K := zx_pk (zK L) 119) (σ := (zx_up σ 83 (σ 82 2).toNatClampNeg (zJ_byte (zJ_byte (zJ_shr s0 (24 - (8 * (zJ_rem v6 4)))))))) (c := 12) (k := 2) (q := 82) (v := (σ 82 2)) zd_15_114 rfl rfl rfl (by decide) (show ((zx_up σ 83 (σ 82 2).toNatClampNeg (zJ_byte (zJ_byte (zJ_shr s0 (24 - (8 * (zJ_rem v6 4))))))) : zS) 82 2 = (σ 82 2) from ((zx_up_ne (by decide)).trans rfl))]
    rw [zs_iconst (z := 1) zd_15_117 (by decide)]
    rw [zp_iadd (x := (σ 82 2)) (y := 1) (z := ((σ 82 2) + 1)) zd_15_118 rfl]
    rw [zs_putI (n := 119) (K := zx_pk (zK L) 119) (c := 12) (k := 2) (q := 82) (x := ((σ 82 2) + 1)) zd_15_119 rfl rfl (by decide +kernel) rfl (by decide)]
    rw [zs_iinc (ls := [some (.ref 82), some (.int v1), some (.int v2), some (.int v3), some (.int v4), some (.int v5), some (.int v6), some (.int s0)]) (x := v6) (z := (v6 + 1)) (ls' := [some (.ref 82), some (.int v1), some (.int v2), some (.int v3), some (.int v4), some (.int v5), some (.int (v6 + 1)), some (.int s0)]) zd_15_122 rfl rfl rfl]
    rw [zs_goto (t := 34) zd_15_125 rfl]
    exact hk34 H
  · rw [if_neg c8] at H
    cases H
set_option maxRecDepth 20000 in
theorem zt_M_feed_34 {a b L N : Nat} : ∀ {n : Nat} {σ : zS} {τ : zT} {v1 : Int32} {v2 : Int32} {v3 : Int32} {v4 : Int32} {v5 : Int32} {v6 : Int32} {o7 : Option Value} {r : Int32 × zS}, zb_M_feed_34 N n σ v1 v2 v3 v4 v5 v6 = some r → zx_go 0 15 34 [some (.ref 82), some (.int v1), some (.int v2), some (.int v3), some (.int v4), some (.int v5), some (.int v6), o7] [] ((119, a, b), zx_pk (zK L) 119, σ, τ, zR) = some (some (.int r.1), ((119, a, b), zx_pk (zK L) 119, r.2, τ, zR)) := by
  intro n
  induction n with
  | zero =>
    intro _ _ _ _ _ _ _ _ _ _ H
    cases H
  | succ n ih =>
    intro σ τ v1 v2 v3 v4 v5 v6 o7 r H
    rw [zb_M_feed_34] at H
    rw [zs_iload (ls := [some (.ref 82), some (.int v1), some (.int v2), some (.int v3), some (.int v4), some (.int v5), some (.int v6), o7]) zd_15_34 rfl]
    rw [zs_bipush (z := 20) zd_15_36 (by decide)]
    by_cases c3 : 20 ≤ v6
    · rw [if_pos c3] at H
      rw [zp_icmp_ge_t (x := v6) (y := 20) (t := 128) zd_15_38 rfl c3]
      rw [zs_aload_n (ls := [some (.ref 82), some (.int v1), some (.int v2), some (.int v3), some (.int v4), some (.int v5), some (.int v6), o7]) zd_15_128 rfl]
      rw [zp_getI (n := 119) (K := zx_pk (zK L) 119) (σ := σ) (c := 12) (k := 2) (q := 82) (v := (σ 82 2)) zd_15_129 rfl rfl rfl (by decide) rfl]
      have H := Option.some.inj H
      subst H
      exact zs_ireturn zd_15_132 rfl
    · rw [if_neg c3] at H
      rw [zp_icmp_ge_f (x := v6) (y := 20) (t := 128) zd_15_38 rfl c3]
      rw [zs_iload (ls := [some (.ref 82), some (.int v1), some (.int v2), some (.int v3), some (.int v4), some (.int v5), some (.int v6), o7]) zd_15_41 rfl]
      rw [zs_iconst (z := 4) zd_15_43 (by decide)]
      by_cases c4 : 4 ≤ v6
      · rw [if_pos c4] at H
        rw [zp_icmp_ge_t (x := v6) (y := 4) (t := 51) zd_15_44 rfl c4]
        rw [zs_iload (ls := [some (.ref 82), some (.int v1), some (.int v2), some (.int v3), some (.int v4), some (.int v5), some (.int v6), o7]) zd_15_51 rfl]
        rw [zs_bipush (z := 8) zd_15_53 (by decide)]
        by_cases c5 : 8 ≤ v6
        · rw [if_pos c5] at H
          rw [zp_icmp_ge_t (x := v6) (y := 8) (t := 62) zd_15_55 rfl c5]
          rw [zs_iload (ls := [some (.ref 82), some (.int v1), some (.int v2), some (.int v3), some (.int v4), some (.int v5), some (.int v6), o7]) zd_15_62 rfl]
          rw [zs_bipush (z := 12) zd_15_64 (by decide)]
          by_cases c6 : 12 ≤ v6
          · rw [if_pos c6] at H
            rw [zp_icmp_ge_t (x := v6) (y := 12) (t := 73) zd_15_66 rfl c6]
            rw [zs_iload (ls := [some (.ref 82), some (.int v1), some (.int v2), some (.int v3), some (.int v4), some (.int v5), some (.int v6), o7]) zd_15_73 rfl]
            rw [zs_bipush (z := 16) zd_15_75 (by decide)]
            by_cases c7 : 16 ≤ v6
            · rw [if_pos c7] at H
              rw [zp_icmp_ge_t (x := v6) (y := 16) (t := 85) zd_15_77 rfl c7]
              rw [zs_iload (ls := [some (.ref 82), some (.int v1), some (.int v2), some (.int v3), some (.int v4), some (.int v5), some (.int v6), o7]) zd_15_85 rfl]
              exact zt_M_feed_87 (hk34 := ih) H
            · rw [if_neg c7] at H
              rw [zp_icmp_ge_f (x := v6) (y := 16) (t := 85) zd_15_77 rfl c7]
              rw [zs_iload (ls := [some (.ref 82), some (.int v1), some (.int v2), some (.int v3), some (.int v4), some (.int v5), some (.int v6), o7]) zd_15_80 rfl]
              rw [zs_goto (t := 87) zd_15_82 rfl]
              exact zt_M_feed_87 (hk34 := ih) H
          · rw [if_neg c6] at H
            rw [zp_icmp_ge_f (x := v6) (y := 12) (t := 73) zd_15_66 rfl c6]
            rw [zs_iload_n (ls := [some (.ref 82), some (.int v1), some (.int v2), some (.int v3), some (.int v4), some (.int v5), some (.int v6), o7]) zd_15_69 rfl]
            rw [zs_goto (t := 87) zd_15_70 rfl]
            exact zt_M_feed_87 (hk34 := ih) H
        · rw [if_neg c5] at H
          rw [zp_icmp_ge_f (x := v6) (y := 8) (t := 62) zd_15_55 rfl c5]
          rw [zs_iload_n (ls := [some (.ref 82), some (.int v1), some (.int v2), some (.int v3), some (.int v4), some (.int v5), some (.int v6), o7]) zd_15_58 rfl]
          rw [zs_goto (t := 87) zd_15_59 rfl]
          exact zt_M_feed_87 (hk34 := ih) H
      · rw [if_neg c4] at H
        rw [zp_icmp_ge_f (x := v6) (y := 4) (t := 51) zd_15_44 rfl c4]
        rw [zs_iload_n (ls := [some (.ref 82), some (.int v1), some (.int v2), some (.int v3), some (.int v4), some (.int v5), some (.int v6), o7]) zd_15_47 rfl]
        rw [zs_goto (t := 87) zd_15_48 rfl]
        exact zt_M_feed_87 (hk34 := ih) H
set_option maxRecDepth 20000 in
theorem zt_M_feed_19 {a b L N : Nat} {σ : zS} {τ : zT} {v1 : Int32} {v2 : Int32} {v3 : Int32} {v4 : Int32} {v5 : Int32} {s0 : Int32} {o6 : Option Value} {o7 : Option Value} {r : Int32 × zS} (H : zb_M_feed_19 N σ v1 v2 v3 v4 v5 s0 = some r) : zx_go 0 15 19 [some (.ref 82), some (.int v1), some (.int v2), some (.int v3), some (.int v4), some (.int v5), o6, o7] [.int s0, .ref 82] ((119, a, b), zx_pk (zK L) 119, σ, τ, zR) = some (some (.int r.1), ((119, a, b), zx_pk (zK L) 119, r.2, τ, zR)) := by
  unfold zb_M_feed_19 at H
  rw [zs_putI (n := 119) (K := zx_pk (zK L) 119) (c := 12) (k := 0) (q := 82) (x := s0) zd_15_19 rfl rfl (by decide +kernel) rfl (by decide)]
  rw [zs_aload_n (ls := [some (.ref 82), some (.int v1), some (.int v2), some (.int v3), some (.int v4), some (.int v5), o6, o7]) zd_15_22 rfl]
  rw [zp_getI (n := 119) (K := zx_pk (zK L) 119) (σ := (zx_up σ 82 0 s0)) (c := 12) (k := 0) (q := 82) (v := s0) zd_15_23 rfl rfl rfl (by decide) (show ((zx_up σ 82 0 s0) : zS) 82 0 = s0 from zx_up_at)]
  by_cases c2 : s0 ≤ 0
  · rw [if_pos c2] at H
    rw [zp_if_le_t (x := s0) (t := 31) zd_15_26 rfl c2]
    rw [zs_iconst (z := 0) zd_15_31 (by decide)]
    rw [zs_istore (x := 0) (ls' := [some (.ref 82), some (.int v1), some (.int v2), some (.int v3), some (.int v4), some (.int v5), some (.int 0), o7]) zd_15_32 (Nat.le_of_ble_eq_true rfl) rfl]
    exact zt_M_feed_34  H
  · rw [if_neg c2] at H
    rw [zp_if_le_f (x := s0) (t := 31) zd_15_26 rfl c2]
    rw [zs_iconst (z := 0) zd_15_29 (by decide)]
    have H := Option.some.inj H
    subst H
    exact zs_ireturn zd_15_30 (by decide +kernel)
set_option maxRecDepth 20000 in
theorem zt_M_feed {a b L N : Nat} {σ : zS} {τ : zT} {x1 : Int32} {x2 : Int32} {x3 : Int32} {x4 : Int32} {x5 : Int32} {r : Int32 × zS} (H : zf_M_feed N σ x1 x2 x3 x4 x5 = some r) : zx_go 0 15 0 [some (.ref 82), some (.int x1), some (.int x2), some (.int x3), some (.int x4), some (.int x5), none, none] [] ((119, a, b), zx_pk (zK L) 119, σ, τ, zR) = some (some (.int r.1), ((119, a, b), zx_pk (zK L) 119, r.2, τ, zR)) := by
  unfold zf_M_feed at H
  rw [zs_aload_n (ls := [some (.ref 82), some (.int x1), some (.int x2), some (.int x3), some (.int x4), some (.int x5), none, none]) zd_15_0 rfl]
  rw [zs_aload_n (ls := [some (.ref 82), some (.int x1), some (.int x2), some (.int x3), some (.int x4), some (.int x5), none, none]) zd_15_1 rfl]
  rw [zp_getI (n := 119) (K := zx_pk (zK L) 119) (σ := σ) (c := 12) (k := 2) (q := 82) (v := (σ 82 2)) zd_15_2 rfl rfl rfl (by decide) rfl]
  rw [zs_bipush (z := 20) zd_15_5 (by decide)]
  rw [zp_iadd (x := (σ 82 2)) (y := 20) (z := ((σ 82 2) + 20)) zd_15_7 rfl]
  rw [zs_sipush (z := 1500) zd_15_8 (by decide)]
  by_cases c1 : ((σ 82 2) + 20) ≤ 1500
  · rw [if_pos c1] at H
    rw [zp_icmp_le_t (x := ((σ 82 2) + 20)) (y := 1500) (t := 18) zd_15_11 rfl c1]
    rw [zs_iconst (z := 0) zd_15_18 (by decide)]
    exact zt_M_feed_19  H
  · rw [if_neg c1] at H
    rw [zp_icmp_le_f (x := ((σ 82 2) + 20)) (y := 1500) (t := 18) zd_15_11 rfl c1]
    rw [zs_iconst (z := 1) zd_15_14 (by decide)]
    rw [zs_goto (t := 19) zd_15_15 rfl]
    exact zt_M_feed_19  H
set_option maxRecDepth 20000 in
theorem zt_X_end_12 {a b L : Nat} {σ : zS} {τ : zT} {o0 : Option Value} {o1 : Option Value} {r : zS} (H : zb_X_end_12 σ = some r) : zx_go 0 16 12 [o0, o1] [] ((119, a, b), zx_pk (zK L) 119, σ, τ, zR) = some (none, ((119, a, b), zx_pk (zK L) 119, r, τ, zR)) := by
  unfold zb_X_end_12 at H
  cases H
set_option maxRecDepth 20000 in
theorem zt_X_end {a b L : Nat} {σ : zS} {τ : zT} {x1 : Int32} {r : zS} (H : zf_X_end σ x1 = some r) : zx_go 0 16 0 [some (.ref 2), some (.int x1)] [] ((119, a, b), zx_pk (zK L) 119, σ, τ, zR) = some (none, ((119, a, b), zx_pk (zK L) 119, r, τ, zR)) := by
  unfold zf_X_end at H
  rw [zs_iload_n (ls := [some (.ref 2), some (.int x1)]) zd_16_0 rfl]
  by_cases c1 : x1 < 0
  · rw [if_pos c1] at H
    rw [zp_if_lt_t (x := x1) (t := 12) zd_16_1 rfl c1]
    exact zt_X_end_12  H
  · rw [if_neg c1] at H
    rw [zp_if_lt_f (x := x1) (t := 12) zd_16_1 rfl c1]
    rw [zs_iload_n (ls := [some (.ref 2), some (.int x1)]) zd_16_4 rfl]
    rw [zs_aload_n (ls := [some (.ref 2), some (.int x1)]) zd_16_5 rfl]
    rw [zp_getI (n := 119) (K := zx_pk (zK L) 119) (σ := σ) (c := 11) (k := 11) (q := 2) (v := (σ 2 11)) zd_16_6 rfl rfl rfl (by decide) rfl]
    by_cases c2 : x1 ≤ (σ 2 11)
    · rw [if_pos c2] at H
      rw [zp_icmp_le_t (x := x1) (y := (σ 2 11)) (t := 22) zd_16_9 rfl c2]
      rw [zs_aload_n (ls := [some (.ref 2), some (.int x1)]) zd_16_22 rfl]
      rw [zs_iload_n (ls := [some (.ref 2), some (.int x1)]) zd_16_23 rfl]
      rw [zs_putI (n := 119) (K := zx_pk (zK L) 119) (c := 11) (k := 11) (q := 2) (x := x1) zd_16_24 rfl rfl (by decide +kernel) rfl (by decide)]
      have H := Option.some.inj H
      subst H
      exact zs_return zd_16_27 (by decide +kernel)
    · rw [if_neg c2] at H
      rw [zp_icmp_le_f (x := x1) (y := (σ 2 11)) (t := 22) zd_16_9 rfl c2]
      exact zt_X_end_12  H
set_option maxRecDepth 20000 in
theorem zt_M_in {a b L : Nat} {σ : zS} {τ : zT} {x1 : Int32} {x2 : Int32} {x3 : Int32} {r : Int32} (H : zf_M_in σ x1 x2 x3 = some r) : zx_go 0 18 0 [some (.int x1), some (.int x2), some (.int x3)] [] ((119, a, b), zx_pk (zK L) 119, σ, τ, zR) = some (some (.int r), ((119, a, b), zx_pk (zK L) 119, σ, τ, zR)) := by
  unfold zf_M_in at H
  rw [zs_iload_n (ls := [some (.int x1), some (.int x2), some (.int x3)]) zd_18_0 rfl]
  rw [zs_iload_n (ls := [some (.int x1), some (.int x2), some (.int x3)]) zd_18_1 rfl]
  by_cases c1 : x1 < x2
  · rw [if_pos c1] at H
    rw [zp_icmp_lt_t (x := x1) (y := x2) (t := 14) zd_18_2 rfl c1]
    rw [zs_iconst (z := 0) zd_18_14 (by decide)]
    have H := Option.some.inj H
    subst H
    exact zs_ireturn zd_18_15 (by decide +kernel)
  · rw [if_neg c1] at H
    rw [zp_icmp_lt_f (x := x1) (y := x2) (t := 14) zd_18_2 rfl c1]
    rw [zs_iload_n (ls := [some (.int x1), some (.int x2), some (.int x3)]) zd_18_5 rfl]
    rw [zs_iload_n (ls := [some (.int x1), some (.int x2), some (.int x3)]) zd_18_6 rfl]
    by_cases c2 : x3 < x1
    · rw [if_pos c2] at H
      rw [zp_icmp_gt_t (x := x1) (y := x3) (t := 14) zd_18_7 rfl c2]
      rw [zs_iconst (z := 0) zd_18_14 (by decide)]
      have H := Option.some.inj H
      subst H
      exact zs_ireturn zd_18_15 (by decide +kernel)
    · rw [if_neg c2] at H
      rw [zp_icmp_gt_f (x := x1) (y := x3) (t := 14) zd_18_7 rfl c2]
      rw [zs_iconst (z := 1) zd_18_10 (by decide)]
      rw [zs_goto (t := 15) zd_18_11 rfl]
      have H := Option.some.inj H
      subst H
      exact zs_ireturn zd_18_15 (by decide +kernel)
set_option maxRecDepth 20000 in
theorem zt_M_end_37 {a b L : Nat} {σ : zS} {τ : zT} {s0 : Int32} {o0 : Option Value} {o1 : Option Value} {r : zS} (H : zb_M_end_37 σ s0 = some r) : zx_go 1 17 37 [o0, o1] [.int s0, .ref 82] ((119, a, b), zx_pk (zK L) 119, σ, τ, zR) = some (none, ((119, a, b), zx_pk (zK L) 119, r, τ, zR)) := by
  unfold zb_M_end_37 at H
  rw [zs_putI (n := 119) (K := zx_pk (zK L) 119) (c := 12) (k := 2) (q := 82) (x := s0) zd_17_37 rfl rfl (by decide +kernel) rfl (by decide)]
  have H := Option.some.inj H
  subst H
  exact zs_return zd_17_40 (by decide +kernel)
set_option maxRecDepth 20000 in
theorem zt_M_end_18 {a b L : Nat} {σ : zS} {τ : zT} {v1 : Int32} {s0 : Int32} {r : zS} (H : zb_M_end_18 σ v1 s0 = some r) : zx_go 1 17 18 [some (.ref 82), some (.int v1)] [.int s0, .ref 82] ((119, a, b), zx_pk (zK L) 119, σ, τ, zR) = some (none, ((119, a, b), zx_pk (zK L) 119, r, τ, zR)) := by
  unfold zb_M_end_18 at H
  rw [zs_putI (n := 119) (K := zx_pk (zK L) 119) (c := 12) (k := 0) (q := 82) (x := s0) zd_17_18 rfl rfl (by decide +kernel) rfl (by decide)]
  rw [zs_aload_n (ls := [some (.ref 82), some (.int v1)]) zd_17_21 rfl]
  rw [zs_aload_n (ls := [some (.ref 82), some (.int v1)]) zd_17_22 rfl]
  rw [zp_getI (n := 119) (K := zx_pk (zK L) 119) (σ := (zx_up σ 82 0 s0)) (c := 12) (k := 0) (q := 82) (v := s0) zd_17_23 rfl rfl rfl (by decide) (show ((zx_up σ 82 0 s0) : zS) 82 0 = s0 from zx_up_at)]
  by_cases c3 : s0 ≤ 0
  · rw [if_pos c3] at H
    rw [zp_if_le_t (x := s0) (t := 36) zd_17_26 rfl c3]
    rw [zs_iload_n (ls := [some (.ref 82), some (.int v1)]) zd_17_36 rfl]
    exact zt_M_end_37  H
  · rw [if_neg c3] at H
    rw [zp_if_le_f (x := s0) (t := 36) zd_17_26 rfl c3]
    rw [zs_aload_n (ls := [some (.ref 82), some (.int v1)]) zd_17_29 rfl]
    rw [zp_getI (n := 119) (K := zx_pk (zK L) 119) (σ := (zx_up σ 82 0 s0)) (c := 12) (k := 2) (q := 82) (v := (σ 82 2)) zd_17_30 rfl rfl rfl (by decide) (show ((zx_up σ 82 0 s0) : zS) 82 2 = (σ 82 2) from ((zx_up_nj (by decide)).trans rfl))]
    rw [zs_goto (t := 37) zd_17_33 rfl]
    exact zt_M_end_37  H
set_option maxRecDepth 20000 in
theorem zt_M_end {a b L : Nat} {σ : zS} {τ : zT} {x1 : Int32} {r : zS} (H : zf_M_end σ x1 = some r) : zx_go 1 17 0 [some (.ref 82), some (.int x1)] [] ((119, a, b), zx_pk (zK L) 119, σ, τ, zR) = some (none, ((119, a, b), zx_pk (zK L) 119, r, τ, zR)) := by
  unfold zf_M_end at H
  rw [zs_aload_n (ls := [some (.ref 82), some (.int x1)]) zd_17_0 rfl]
  rw [zs_iload_n (ls := [some (.ref 82), some (.int x1)]) zd_17_1 rfl]
  rw [zs_iconst (z := 0) zd_17_2 (by decide)]
  rw [zs_aload_n (ls := [some (.ref 82), some (.int x1)]) zd_17_3 rfl]
  rw [zp_getI (n := 119) (K := zx_pk (zK L) 119) (σ := σ) (c := 12) (k := 2) (q := 82) (v := (σ 82 2)) zd_17_4 rfl rfl rfl (by decide) rfl]
  obtain ⟨r1, hr1, H⟩ := Option.bind_eq_some_iff.mp H
  rw [zp_callSi (x := r1) (st := [.int (σ 82 2), .int 0, .int x1, .ref 82]) (as := [.int x1, .int 0, .int (σ 82 2)]) (rest := [.ref 82]) (e := 0) zd_17_7 rfl (by decide +kernel) (by decide) rfl rfl (Nat.le_of_ble_eq_true rfl) rfl (Nat.le_of_ble_eq_true rfl) rfl (by decide) (zt_M_in hr1)]
  by_cases c2 : r1 = 0
  · rw [if_pos c2] at H
    rw [zp_if_eq_t (x := r1) (t := 17) zd_17_10 rfl c2]
    rw [zs_iconst (z := 1) zd_17_17 (by decide)]
    exact zt_M_end_18  H
  · rw [if_neg c2] at H
    rw [zp_if_eq_f (x := r1) (t := 17) zd_17_10 rfl c2]
    rw [zs_iconst (z := 0) zd_17_13 (by decide)]
    rw [zs_goto (t := 18) zd_17_14 rfl]
    exact zt_M_end_18  H
set_option maxRecDepth 20000 in
theorem zt_Arrays_fill_5 {a b L N : Nat} : ∀ {n : Nat} {σ : zS} {τ : zT} {v1 : Int32} {v2 : Int32} {v3 : Int32} {r : zS}, zb_Arrays_fill_5 N n σ v1 v2 v3 = some r → zx_go 0 22 5 [some (.ref 5), some (.int v1), some (.int v2), some (.int v3)] [] ((119, a, b), zx_pk (zK L) 119, σ, τ, zR) = some (none, ((119, a, b), zx_pk (zK L) 119, r, τ, zR)) := by
  intro n
  induction n with
  | zero =>
    intro _ _ _ _ _ _ H
    cases H
  | succ n ih =>
    intro σ τ v1 v2 v3 r H
    rw [zb_Arrays_fill_5] at H
    rw [zs_iload_n (ls := [some (.ref 5), some (.int v1), some (.int v2), some (.int v3)]) zd_22_5 rfl]
    rw [zs_iload_n (ls := [some (.ref 5), some (.int v1), some (.int v2), some (.int v3)]) zd_22_6 rfl]
    by_cases c1 : v3 ≤ v2
    · rw [if_pos c1] at H
      rw [zp_icmp_ge_t (x := v2) (y := v3) (t := 20) zd_22_7 rfl c1]
      have H := Option.some.inj H
      subst H
      exact zs_return zd_22_20 (by decide +kernel)
    · rw [if_neg c1] at H
      rw [zp_icmp_ge_f (x := v2) (y := v3) (t := 20) zd_22_7 rfl c1]
      rw [zs_aload_n (ls := [some (.ref 5), some (.int v1), some (.int v2), some (.int v3)]) zd_22_10 rfl]
      rw [zs_iload_n (ls := [some (.ref 5), some (.int v1), some (.int v2), some (.int v3)]) zd_22_11 rfl]
      rw [zs_iload_n (ls := [some (.ref 5), some (.int v1), some (.int v2), some (.int v3)]) zd_22_12 rfl]
      by_cases c2 : 0 ≤ v2 ∧ v2 < 4
      · rw [if_pos c2] at H
        rw [zp_iastore (n := 119) (K := zx_pk (zK L) 119) (q := 5) (m := 4) (i := v2) (k := v2.toNatClampNeg) (x := v1) (z := v1) zd_22_13 rfl ⟨by decide, by decide⟩ (zJ_in c2 rfl) rfl rfl]
        rw [zs_iinc (ls := [some (.ref 5), some (.int v1), some (.int v2), some (.int v3)]) (x := v2) (z := (v2 + 1)) (ls' := [some (.ref 5), some (.int v1), some (.int (v2 + 1)), some (.int v3)]) zd_22_14 rfl rfl rfl]
        rw [zs_goto (t := 5) zd_22_17 rfl]
        exact ih H
      · rw [if_neg c2] at H
        cases H
set_option maxRecDepth 20000 in
theorem zt_Arrays_fill {a b L N : Nat} {σ : zS} {τ : zT} {x2 : Int32} {r : zS} (H : zf_Arrays_fill N σ x2 = some r) : zx_go 0 22 0 [some (.ref 5), some (.int x2), none, none] [] ((119, a, b), zx_pk (zK L) 119, σ, τ, zR) = some (none, ((119, a, b), zx_pk (zK L) 119, r, τ, zR)) := by
  unfold zf_Arrays_fill at H
  rw [zs_iconst (z := 0) zd_22_0 (by decide)]
  rw [zs_istore_n (x := 0) (ls' := [some (.ref 5), some (.int x2), some (.int 0), none]) zd_22_1 (Nat.le_of_ble_eq_true rfl) rfl]
  rw [zs_aload_n (ls := [some (.ref 5), some (.int x2), some (.int 0), none]) zd_22_2 rfl]
  rw [zs_arraylength (n := 119) (K := zx_pk (zK L) 119) (q := 5) (m := 4) (z := 4) zd_22_3 rfl (by decide) (by decide)]
  rw [zs_istore_n (x := 4) (ls' := [some (.ref 5), some (.int x2), some (.int 0), some (.int 4)]) zd_22_4 (Nat.le_of_ble_eq_true rfl) rfl]
  exact zt_Arrays_fill_5  H
set_option maxRecDepth 20000 in
theorem zt_Arrays_fill_c1_5 {a b L N : Nat} : ∀ {n : Nat} {σ : zS} {τ : zT} {v1 : Int32} {v2 : Int32} {v3 : Int32} {r : zS}, zb_Arrays_fill_c1_5 N n σ v1 v2 v3 = some r → zx_go 0 22 5 [some (.ref 6), some (.int v1), some (.int v2), some (.int v3)] [] ((119, a, b), zx_pk (zK L) 119, σ, τ, zR) = some (none, ((119, a, b), zx_pk (zK L) 119, r, τ, zR)) := by
  intro n
  induction n with
  | zero =>
    intro _ _ _ _ _ _ H
    cases H
  | succ n ih =>
    intro σ τ v1 v2 v3 r H
    rw [zb_Arrays_fill_c1_5] at H
    rw [zs_iload_n (ls := [some (.ref 6), some (.int v1), some (.int v2), some (.int v3)]) zd_22_5 rfl]
    rw [zs_iload_n (ls := [some (.ref 6), some (.int v1), some (.int v2), some (.int v3)]) zd_22_6 rfl]
    by_cases c1 : v3 ≤ v2
    · rw [if_pos c1] at H
      rw [zp_icmp_ge_t (x := v2) (y := v3) (t := 20) zd_22_7 rfl c1]
      have H := Option.some.inj H
      subst H
      exact zs_return zd_22_20 (by decide +kernel)
    · rw [if_neg c1] at H
      rw [zp_icmp_ge_f (x := v2) (y := v3) (t := 20) zd_22_7 rfl c1]
      rw [zs_aload_n (ls := [some (.ref 6), some (.int v1), some (.int v2), some (.int v3)]) zd_22_10 rfl]
      rw [zs_iload_n (ls := [some (.ref 6), some (.int v1), some (.int v2), some (.int v3)]) zd_22_11 rfl]
      rw [zs_iload_n (ls := [some (.ref 6), some (.int v1), some (.int v2), some (.int v3)]) zd_22_12 rfl]
      by_cases c2 : 0 ≤ v2 ∧ v2 < 4
      · rw [if_pos c2] at H
        rw [zp_iastore (n := 119) (K := zx_pk (zK L) 119) (q := 6) (m := 4) (i := v2) (k := v2.toNatClampNeg) (x := v1) (z := v1) zd_22_13 rfl ⟨by decide, by decide⟩ (zJ_in c2 rfl) rfl rfl]
        rw [zs_iinc (ls := [some (.ref 6), some (.int v1), some (.int v2), some (.int v3)]) (x := v2) (z := (v2 + 1)) (ls' := [some (.ref 6), some (.int v1), some (.int (v2 + 1)), some (.int v3)]) zd_22_14 rfl rfl rfl]
        rw [zs_goto (t := 5) zd_22_17 rfl]
        exact ih H
      · rw [if_neg c2] at H
        cases H
set_option maxRecDepth 20000 in
theorem zt_Arrays_fill_c1 {a b L N : Nat} {σ : zS} {τ : zT} {x2 : Int32} {r : zS} (H : zf_Arrays_fill_c1 N σ x2 = some r) : zx_go 0 22 0 [some (.ref 6), some (.int x2), none, none] [] ((119, a, b), zx_pk (zK L) 119, σ, τ, zR) = some (none, ((119, a, b), zx_pk (zK L) 119, r, τ, zR)) := by
  unfold zf_Arrays_fill_c1 at H
  rw [zs_iconst (z := 0) zd_22_0 (by decide)]
  rw [zs_istore_n (x := 0) (ls' := [some (.ref 6), some (.int x2), some (.int 0), none]) zd_22_1 (Nat.le_of_ble_eq_true rfl) rfl]
  rw [zs_aload_n (ls := [some (.ref 6), some (.int x2), some (.int 0), none]) zd_22_2 rfl]
  rw [zs_arraylength (n := 119) (K := zx_pk (zK L) 119) (q := 6) (m := 4) (z := 4) zd_22_3 rfl (by decide) (by decide)]
  rw [zs_istore_n (x := 4) (ls' := [some (.ref 6), some (.int x2), some (.int 0), some (.int 4)]) zd_22_4 (Nat.le_of_ble_eq_true rfl) rfl]
  exact zt_Arrays_fill_c1_5  H
set_option maxRecDepth 20000 in
theorem zt_Program_clear {a b L N : Nat} {σ : zS} {τ : zT} {r : zS} (H : zf_Program_clear N σ = some r) : zx_go 1 21 0 [some (.ref 4)] [] ((119, a, b), zx_pk (zK L) 119, σ, τ, zR) = some (none, ((119, a, b), zx_pk (zK L) 119, r, τ, zR)) := by
  unfold zf_Program_clear at H
  rw [zs_aload_n (ls := [some (.ref 4)]) zd_21_0 rfl]
  rw [zs_iconst (z := 0) zd_21_1 (by decide)]
  rw [zs_putI (n := 119) (K := zx_pk (zK L) 119) (c := 6) (k := 0) (q := 4) (x := 0) zd_21_2 rfl rfl (by decide +kernel) rfl (by decide)]
  rw [zs_aload_n (ls := [some (.ref 4)]) zd_21_5 rfl]
  rw [zs_iconst (z := 0) zd_21_6 (by decide)]
  rw [zs_putI (n := 119) (K := zx_pk (zK L) 119) (c := 6) (k := 1) (q := 4) (x := 0) zd_21_7 rfl rfl (by decide +kernel) rfl (by decide)]
  rw [zs_aload_n (ls := [some (.ref 4)]) zd_21_10 rfl]
  rw [zs_iconst (z := 0) zd_21_11 (by decide)]
  rw [zs_putI (n := 119) (K := zx_pk (zK L) 119) (c := 6) (k := 2) (q := 4) (x := 0) zd_21_12 rfl rfl (by decide +kernel) rfl (by decide)]
  rw [zs_aload_n (ls := [some (.ref 4)]) zd_21_15 rfl]
  rw [zs_iconst (z := 0) zd_21_16 (by decide)]
  rw [zs_putI (n := 119) (K := zx_pk (zK L) 119) (c := 6) (k := 3) (q := 4) (x := 0) zd_21_17 rfl rfl (by decide +kernel) rfl (by decide)]
  rw [zs_aload_n (ls := [some (.ref 4)]) zd_21_20 rfl]
  rw [zs_iconst (z := 0) zd_21_21 (by decide)]
  rw [zs_putI (n := 119) (K := zx_pk (zK L) 119) (c := 6) (k := 4) (q := 4) (x := 0) zd_21_22 rfl rfl (by decide +kernel) rfl (by decide)]
  rw [zs_aload_n (ls := [some (.ref 4)]) zd_21_25 rfl]
  rw [zs_iconst (z := 0) zd_21_26 (by decide)]
  rw [zs_putI (n := 119) (K := zx_pk (zK L) 119) (c := 6) (k := 5) (q := 4) (x := 0) zd_21_27 rfl rfl (by decide +kernel) rfl (by decide)]
  rw [zs_aload_n (ls := [some (.ref 4)]) zd_21_30 rfl]
  rw [zs_iconst (z := 0) zd_21_31 (by decide)]
  rw [zs_putI (n := 119) (K := zx_pk (zK L) 119) (c := 6) (k := 6) (q := 4) (x := 0) zd_21_32 rfl rfl (by decide +kernel) rfl (by decide)]
  rw [zs_aload_n (ls := [some (.ref 4)]) zd_21_35 rfl]
  rw [zs_getR (n := 119) (K := zx_pk (zK L) 119) (ρ := zR) (c := 6) (k := 7) (q := 4) (p := 5) zd_21_36 rfl rfl rfl (by decide) rfl]
  rw [zs_iconst (z := 0) zd_21_39 (by decide)]
  obtain ⟨r1, hr1, H⟩ := Option.bind_eq_some_iff.mp H
  rw [zp_callSv (st := [.int 0, .ref 5]) (as := [.ref 5, .int 0]) (rest := []) (e := 0) zd_21_40 rfl (by decide +kernel) (by decide) rfl rfl (Nat.le_of_ble_eq_true rfl) rfl (Nat.le_of_ble_eq_true rfl) rfl (by decide) (zt_Arrays_fill hr1)]
  rw [zs_aload_n (ls := [some (.ref 4)]) zd_21_43 rfl]
  rw [zs_getR (n := 119) (K := zx_pk (zK L) 119) (ρ := zR) (c := 6) (k := 8) (q := 4) (p := 6) zd_21_44 rfl rfl rfl (by decide) rfl]
  rw [zs_iconst (z := 0) zd_21_47 (by decide)]
  obtain ⟨r2, hr2, H⟩ := Option.bind_eq_some_iff.mp H
  rw [zp_callSv (st := [.int 0, .ref 6]) (as := [.ref 6, .int 0]) (rest := []) (e := 0) zd_21_48 rfl (by decide +kernel) (by decide) rfl rfl (Nat.le_of_ble_eq_true rfl) rfl (Nat.le_of_ble_eq_true rfl) rfl (by decide) (zt_Arrays_fill_c1 hr2)]
  have H := Option.some.inj H
  subst H
  exact zs_return zd_21_51 (by decide +kernel)
set_option maxRecDepth 20000 in
theorem zt_Names_clear {a b L : Nat} {σ : zS} {τ : zT} {r : zS} (H : zf_Names_clear σ = some r) : zx_go 0 23 0 [some (.ref 18)] [] ((119, a, b), zx_pk (zK L) 119, σ, τ, zR) = some (none, ((119, a, b), zx_pk (zK L) 119, r, τ, zR)) := by
  unfold zf_Names_clear at H
  rw [zs_aload_n (ls := [some (.ref 18)]) zd_23_0 rfl]
  rw [zs_iconst (z := 0) zd_23_1 (by decide)]
  rw [zs_putI (n := 119) (K := zx_pk (zK L) 119) (c := 3) (k := 3) (q := 18) (x := 0) zd_23_2 rfl rfl (by decide +kernel) rfl (by decide)]
  rw [zs_aload_n (ls := [some (.ref 18)]) zd_23_5 rfl]
  rw [zs_iconst (z := 0) zd_23_6 (by decide)]
  rw [zs_putI (n := 119) (K := zx_pk (zK L) 119) (c := 3) (k := 5) (q := 18) (x := 0) zd_23_7 rfl rfl (by decide +kernel) rfl (by decide)]
  have H := Option.some.inj H
  subst H
  exact zs_return zd_23_10 (by decide +kernel)
set_option maxRecDepth 20000 in
theorem zt_Weaver_beginThread {a b L : Nat} {σ : zS} {τ : zT} {x1 : Int32} {r : zS} (H : zf_Weaver_beginThread σ x1 = some r) : zx_go 0 24 0 [some (.ref 29), some (.int x1)] [] ((119, a, b), zx_pk (zK L) 119, σ, τ, zR) = some (none, ((119, a, b), zx_pk (zK L) 119, r, τ, zR)) := by
  unfold zf_Weaver_beginThread at H
  rw [zs_aload_n (ls := [some (.ref 29), some (.int x1)]) zd_24_0 rfl]
  rw [zs_iload_n (ls := [some (.ref 29), some (.int x1)]) zd_24_1 rfl]
  rw [zs_putI (n := 119) (K := zx_pk (zK L) 119) (c := 10) (k := 8) (q := 29) (x := x1) zd_24_2 rfl rfl (by decide +kernel) rfl (by decide)]
  rw [zs_aload_n (ls := [some (.ref 29), some (.int x1)]) zd_24_5 rfl]
  rw [zs_iconst (z := 0) zd_24_6 (by decide)]
  rw [zs_putI (n := 119) (K := zx_pk (zK L) 119) (c := 10) (k := 6) (q := 29) (x := 0) zd_24_7 rfl rfl (by decide +kernel) rfl (by decide)]
  rw [zs_aload_n (ls := [some (.ref 29), some (.int x1)]) zd_24_10 rfl]
  rw [zs_iconst (z := (-1)) zd_24_11 (by decide)]
  rw [zs_putI (n := 119) (K := zx_pk (zK L) 119) (c := 10) (k := 7) (q := 29) (x := (-1)) zd_24_12 rfl rfl (by decide +kernel) rfl (by decide)]
  rw [zs_aload_n (ls := [some (.ref 29), some (.int x1)]) zd_24_15 rfl]
  rw [zs_iconst (z := 0) zd_24_16 (by decide)]
  rw [zs_putI (n := 119) (K := zx_pk (zK L) 119) (c := 10) (k := 9) (q := 29) (x := 0) zd_24_17 rfl rfl (by decide +kernel) rfl (by decide)]
  rw [zs_aload_n (ls := [some (.ref 29), some (.int x1)]) zd_24_20 rfl]
  rw [zs_iconst (z := 0) zd_24_21 (by decide)]
  rw [zs_putI (n := 119) (K := zx_pk (zK L) 119) (c := 10) (k := 10) (q := 29) (x := 0) zd_24_22 rfl rfl (by decide +kernel) rfl (by decide)]
  rw [zs_aload_n (ls := [some (.ref 29), some (.int x1)]) zd_24_25 rfl]
  rw [zs_iconst (z := 0) zd_24_26 (by decide)]
  rw [zs_putI (n := 119) (K := zx_pk (zK L) 119) (c := 10) (k := 11) (q := 29) (x := 0) zd_24_27 rfl rfl (by decide +kernel) rfl (by decide)]
  rw [zs_aload_n (ls := [some (.ref 29), some (.int x1)]) zd_24_30 rfl]
  rw [zs_iconst (z := (-1)) zd_24_31 (by decide)]
  rw [zs_putI (n := 119) (K := zx_pk (zK L) 119) (c := 10) (k := 12) (q := 29) (x := (-1)) zd_24_32 rfl rfl (by decide +kernel) rfl (by decide)]
  have H := Option.some.inj H
  subst H
  exact zs_return zd_24_35 (by decide +kernel)
set_option maxRecDepth 20000 in
theorem zt_Tokens_advance_33 {a b L : Nat} {σ : zS} {τ : zT} {r : zS × zT} (H : zb_Tokens_advance_33 σ τ = some r) : zx_go 0 34 33 [some (.ref 25)] [] ((119, a, b), zx_pk (zK L) 119, σ, τ, zR) = some (none, ((119, a, b), zx_pk (zK L) 119, r.1, r.2, zR)) := by
  unfold zb_Tokens_advance_33 at H
  rw [zs_aload_n (ls := [some (.ref 25)]) zd_34_33 rfl]
  rw [zp_getI (n := 119) (K := zx_pk (zK L) 119) (σ := σ) (c := 9) (k := 6) (q := 25) (v := (σ 25 6)) zd_34_34 rfl rfl rfl (by decide) rfl]
  by_cases c2 : (σ 25 6) < 0
  · rw [if_pos c2] at H
    rw [zp_if_lt_t (x := (σ 25 6)) (t := 89) zd_34_37 rfl c2]
    have H := Option.some.inj H
    subst H
    exact zs_return zd_34_89 (by decide +kernel)
  · rw [if_neg c2] at H
    rw [zp_if_lt_f (x := (σ 25 6)) (t := 89) zd_34_37 rfl c2]
    rw [zs_aload_n (ls := [some (.ref 25)]) zd_34_40 rfl]
    rw [zp_getI (n := 119) (K := zx_pk (zK L) 119) (σ := σ) (c := 9) (k := 6) (q := 25) (v := (σ 25 6)) zd_34_41 rfl rfl rfl (by decide) rfl]
    rw [zs_sipush (z := 1500) zd_34_44 (by decide)]
    by_cases c3 : 1500 < (σ 25 6)
    · rw [if_pos c3] at H
      rw [zp_icmp_gt_t (x := (σ 25 6)) (y := 1500) (t := 89) zd_34_47 rfl c3]
      have H := Option.some.inj H
      subst H
      exact zs_return zd_34_89 (by decide +kernel)
    · rw [if_neg c3] at H
      rw [zp_icmp_gt_f (x := (σ 25 6)) (y := 1500) (t := 89) zd_34_47 rfl c3]
      rw [zs_aload_n (ls := [some (.ref 25)]) zd_34_50 rfl]
      rw [zs_aload_n (ls := [some (.ref 25)]) zd_34_51 rfl]
      rw [zs_getR (n := 119) (K := zx_pk (zK L) 119) (ρ := zR) (c := 9) (k := 1) (q := 25) (p := 26) zd_34_52 rfl rfl rfl (by decide) rfl]
      rw [zs_aload_n (ls := [some (.ref 25)]) zd_34_55 rfl]
      rw [zp_getI (n := 119) (K := zx_pk (zK L) 119) (σ := σ) (c := 9) (k := 6) (q := 25) (v := (σ 25 6)) zd_34_56 rfl rfl rfl (by decide) rfl]
      by_cases c4 : 0 ≤ (σ 25 6) ∧ (σ 25 6) < 1501
      · rw [if_pos c4] at H
        rw [zp_iaload (n := 119) (K := zx_pk (zK L) 119) (σ := σ) (q := 26) (m := 1501) (i := (σ 25 6)) (k := (σ 25 6).toNatClampNeg) (v := (σ 26 (σ 25 6).toNatClampNeg)) zd_34_59 rfl (by decide) (zJ_in c4 rfl) rfl rfl]
        rw [zs_putI (n := 119) (K := zx_pk (zK L) 119) (c := 9) (k := 7) (q := 25) (x := (σ 26 (σ 25 6).toNatClampNeg)) zd_34_60 rfl rfl (by decide +kernel) rfl (by decide)]
        rw [zs_aload_n (ls := [some (.ref 25)]) zd_34_63 rfl]
        rw [zs_aload_n (ls := [some (.ref 25)]) zd_34_64 rfl]
        rw [zs_getR (n := 119) (K := zx_pk (zK L) 119) (ρ := zR) (c := 9) (k := 2) (q := 25) (p := 27) zd_34_65 rfl rfl rfl (by decide) rfl]
        rw [zs_aload_n (ls := [some (.ref 25)]) zd_34_68 rfl]
        rw [zp_getI (n := 119) (K := zx_pk (zK L) 119) (σ := (zx_up σ 25 7 (σ 26 (σ 25 6).toNatClampNeg))) (c := 9) (k := 6) (q := 25) (v := (σ 25 6)) zd_34_69 rfl rfl rfl (by decide) (show ((zx_up σ 25 7 (σ 26 (σ 25 6).toNatClampNeg)) : zS) 25 6 = (σ 25 6) from ((zx_up_nj (by decide)).trans rfl))]
        by_cases c5 : 0 ≤ (σ 25 6) ∧ (σ 25 6) < 1501
        · rw [if_pos c5] at H
          rw [zp_iaload (n := 119) (K := zx_pk (zK L) 119) (σ := (zx_up σ 25 7 (σ 26 (σ 25 6).toNatClampNeg))) (q := 27) (m := 1501) (i := (σ 25 6)) (k := (σ 25 6).toNatClampNeg) (v := (σ 27 (σ 25 6).toNatClampNeg)) zd_34_72 rfl (by decide) (zJ_in c5 rfl) rfl (show ((zx_up σ 25 7 (σ 26 (σ 25 6).toNatClampNeg)) : zS) 27 (σ 25 6).toNatClampNeg = (σ 27 (σ 25 6).toNatClampNeg) from ((zx_up_ne (by decide)).trans rfl))]
          rw [zs_putI (n := 119) (K := zx_pk (zK L) 119) (c := 9) (k := 8) (q := 25) (x := (σ 27 (σ 25 6).toNatClampNeg)) zd_34_73 rfl rfl (by decide +kernel) rfl (by decide)]
          rw [zs_aload_n (ls := [some (.ref 25)]) zd_34_76 rfl]
          rw [zs_aload_n (ls := [some (.ref 25)]) zd_34_77 rfl]
          rw [zs_getR (n := 119) (K := zx_pk (zK L) 119) (ρ := zR) (c := 9) (k := 3) (q := 25) (p := 28) zd_34_78 rfl rfl rfl (by decide) rfl]
          rw [zs_aload_n (ls := [some (.ref 25)]) zd_34_81 rfl]
          rw [zp_getI (n := 119) (K := zx_pk (zK L) 119) (σ := (zx_up (zx_up σ 25 7 (σ 26 (σ 25 6).toNatClampNeg)) 25 8 (σ 27 (σ 25 6).toNatClampNeg))) (c := 9) (k := 6) (q := 25) (v := (σ 25 6)) zd_34_82 rfl rfl rfl (by decide) (show ((zx_up (zx_up σ 25 7 (σ 26 (σ 25 6).toNatClampNeg)) 25 8 (σ 27 (σ 25 6).toNatClampNeg)) : zS) 25 6 = (σ 25 6) from ((zx_up_nj (by decide)).trans ((zx_up_nj (by decide)).trans rfl)))]
          by_cases c6 : 0 ≤ (σ 25 6) ∧ (σ 25 6) < 1501
          · rw [if_pos c6] at H
            rw [zp_laload (n := 119) (K := zx_pk (zK L) 119) (τ := τ) (q := 28) (m := 1501) (i := (σ 25 6)) (k := (σ 25 6).toNatClampNeg) (v := (τ 28 (σ 25 6).toNatClampNeg)) zd_34_85 rfl (by decide) (zJ_in c6 rfl) rfl rfl]
            rw [zs_putL (n := 119) (K := zx_pk (zK L) 119) (c := 9) (k := 9) (q := 25) (x := (τ 28 (σ 25 6).toNatClampNeg)) zd_34_86 rfl rfl (by decide +kernel) rfl (by decide)]
            have H := Option.some.inj H
            subst H
            exact zs_return zd_34_89 (by decide +kernel)
          · rw [if_neg c6] at H
            cases H
        · rw [if_neg c5] at H
          cases H
      · rw [if_neg c4] at H
        cases H
set_option maxRecDepth 20000 in
theorem zt_Tokens_advance {a b L : Nat} {σ : zS} {τ : zT} {r : zS × zT} (H : zf_Tokens_advance σ τ = some r) : zx_go 0 34 0 [some (.ref 25)] [] ((119, a, b), zx_pk (zK L) 119, σ, τ, zR) = some (none, ((119, a, b), zx_pk (zK L) 119, r.1, r.2, zR)) := by
  unfold zf_Tokens_advance at H
  rw [zs_aload_n (ls := [some (.ref 25)]) zd_34_0 rfl]
  rw [zp_getI (n := 119) (K := zx_pk (zK L) 119) (σ := σ) (c := 9) (k := 6) (q := 25) (v := (σ 25 6)) zd_34_1 rfl rfl rfl (by decide) rfl]
  rw [zs_aload_n (ls := [some (.ref 25)]) zd_34_4 rfl]
  rw [zp_getI (n := 119) (K := zx_pk (zK L) 119) (σ := σ) (c := 9) (k := 5) (q := 25) (v := (σ 25 5)) zd_34_5 rfl rfl rfl (by decide) rfl]
  rw [zs_iconst (z := 1) zd_34_8 (by decide)]
  rw [zp_isub (x := (σ 25 5)) (y := 1) (z := ((σ 25 5) - 1)) zd_34_9 rfl]
  by_cases c1 : ((σ 25 5) - 1) ≤ (σ 25 6)
  · rw [if_pos c1] at H
    rw [zp_icmp_ge_t (x := (σ 25 6)) (y := ((σ 25 5) - 1)) (t := 33) zd_34_10 rfl c1]
    exact zt_Tokens_advance_33  H
  · rw [if_neg c1] at H
    rw [zp_icmp_ge_f (x := (σ 25 6)) (y := ((σ 25 5) - 1)) (t := 33) zd_34_10 rfl c1]
    rw [zs_aload_n (ls := [some (.ref 25)]) zd_34_13 rfl]
    rw [zp_getI (n := 119) (K := zx_pk (zK L) 119) (σ := σ) (c := 9) (k := 6) (q := 25) (v := (σ 25 6)) zd_34_14 rfl rfl rfl (by decide) rfl]
    rw [zs_sipush (z := 1500) zd_34_17 (by decide)]
    by_cases c7 : 1500 ≤ (σ 25 6)
    · rw [if_pos c7] at H
      rw [zp_icmp_ge_t (x := (σ 25 6)) (y := 1500) (t := 33) zd_34_20 rfl c7]
      exact zt_Tokens_advance_33  H
    · rw [if_neg c7] at H
      rw [zp_icmp_ge_f (x := (σ 25 6)) (y := 1500) (t := 33) zd_34_20 rfl c7]
      rw [zs_aload_n (ls := [some (.ref 25)]) zd_34_23 rfl]
      rw [zs_dup (a := .ref 25) zd_34_24 rfl]
      rw [zp_getI (n := 119) (K := zx_pk (zK L) 119) (σ := σ) (c := 9) (k := 6) (q := 25) (v := (σ 25 6)) zd_34_25 rfl rfl rfl (by decide) rfl]
      rw [zs_iconst (z := 1) zd_34_28 (by decide)]
      rw [zp_iadd (x := (σ 25 6)) (y := 1) (z := ((σ 25 6) + 1)) zd_34_29 rfl]
      rw [zs_putI (n := 119) (K := zx_pk (zK L) 119) (c := 9) (k := 6) (q := 25) (x := ((σ 25 6) + 1)) zd_34_30 rfl rfl (by decide +kernel) rfl (by decide)]
      exact zt_Tokens_advance_33  H
set_option maxRecDepth 20000 in
theorem zt_Tokens_byteAt_21 {a b L : Nat} {σ : zS} {τ : zT} {o0 : Option Value} {o1 : Option Value} {r : Int32} (H : zb_Tokens_byteAt_21 σ = some r) : zx_go 0 27 21 [o0, o1] [] ((119, a, b), zx_pk (zK L) 119, σ, τ, zR) = some (some (.int r), ((119, a, b), zx_pk (zK L) 119, σ, τ, zR)) := by
  unfold zb_Tokens_byteAt_21 at H
  rw [zs_iconst (z := (-1)) zd_27_21 (by decide)]
  rw [zs_goto (t := 35) zd_27_22 rfl]
  have H := Option.some.inj H
  subst H
  exact zs_ireturn zd_27_35 (by decide +kernel)
set_option maxRecDepth 20000 in
theorem zt_Tokens_byteAt {a b L : Nat} {σ : zS} {τ : zT} {x1 : Int32} {r : Int32} (H : zf_Tokens_byteAt σ x1 = some r) : zx_go 0 27 0 [some (.ref 25), some (.int x1)] [] ((119, a, b), zx_pk (zK L) 119, σ, τ, zR) = some (some (.int r), ((119, a, b), zx_pk (zK L) 119, σ, τ, zR)) := by
  unfold zf_Tokens_byteAt at H
  rw [zs_iload_n (ls := [some (.ref 25), some (.int x1)]) zd_27_0 rfl]
  by_cases c1 : x1 < 0
  · rw [if_pos c1] at H
    rw [zp_if_lt_t (x := x1) (t := 21) zd_27_1 rfl c1]
    exact zt_Tokens_byteAt_21  H
  · rw [if_neg c1] at H
    rw [zp_if_lt_f (x := x1) (t := 21) zd_27_1 rfl c1]
    rw [zs_iload_n (ls := [some (.ref 25), some (.int x1)]) zd_27_4 rfl]
    rw [zs_aload_n (ls := [some (.ref 25), some (.int x1)]) zd_27_5 rfl]
    rw [zp_getI (n := 119) (K := zx_pk (zK L) 119) (σ := σ) (c := 9) (k := 4) (q := 25) (v := (σ 25 4)) zd_27_6 rfl rfl rfl (by decide) rfl]
    by_cases c2 : (σ 25 4) ≤ x1
    · rw [if_pos c2] at H
      rw [zp_icmp_ge_t (x := x1) (y := (σ 25 4)) (t := 21) zd_27_9 rfl c2]
      exact zt_Tokens_byteAt_21  H
    · rw [if_neg c2] at H
      rw [zp_icmp_ge_f (x := x1) (y := (σ 25 4)) (t := 21) zd_27_9 rfl c2]
      rw [zs_iload_n (ls := [some (.ref 25), some (.int x1)]) zd_27_12 rfl]
      rw [zs_aload_n (ls := [some (.ref 25), some (.int x1)]) zd_27_13 rfl]
      rw [zs_getR (n := 119) (K := zx_pk (zK L) 119) (ρ := zR) (c := 9) (k := 0) (q := 25) (p := 3) zd_27_14 rfl rfl rfl (by decide) rfl]
      rw [zs_arraylength (n := 119) (K := zx_pk (zK L) 119) (q := 3) (m := 1500) (z := 1500) zd_27_17 rfl (by decide) (by decide)]
      by_cases c3 : x1 < 1500
      · rw [if_pos c3] at H
        rw [zp_icmp_lt_t (x := x1) (y := 1500) (t := 25) zd_27_18 rfl c3]
        rw [zs_aload_n (ls := [some (.ref 25), some (.int x1)]) zd_27_25 rfl]
        rw [zs_getR (n := 119) (K := zx_pk (zK L) 119) (ρ := zR) (c := 9) (k := 0) (q := 25) (p := 3) zd_27_26 rfl rfl rfl (by decide) rfl]
        rw [zs_iload_n (ls := [some (.ref 25), some (.int x1)]) zd_27_29 rfl]
        by_cases c4 : 0 ≤ x1 ∧ x1 < 1500
        · rw [if_pos c4] at H
          rw [zp_baload (n := 119) (K := zx_pk (zK L) 119) (σ := σ) (q := 3) (m := 1500) (i := x1) (k := x1.toNatClampNeg) (v := (σ 3 x1.toNatClampNeg)) zd_27_30 rfl (by decide) (zJ_in c4 rfl) rfl rfl]
          rw [zs_sipush (z := 255) zd_27_31 (by decide)]
          rw [zp_iand (x := (σ 3 x1.toNatClampNeg)) (y := 255) (z := ((σ 3 x1.toNatClampNeg) &&& 255)) zd_27_34 rfl]
          have H := Option.some.inj H
          subst H
          exact zs_ireturn zd_27_35 rfl
        · rw [if_neg c4] at H
          cases H
      · rw [if_neg c3] at H
        rw [zp_icmp_lt_f (x := x1) (y := 1500) (t := 25) zd_27_18 rfl c3]
        exact zt_Tokens_byteAt_21  H
set_option maxRecDepth 20000 in
theorem zt_Tokens_isOfWord_24 {a b L : Nat} {σ : zS} {τ : zT} {o0 : Option Value} {r : Int32} (H : zb_Tokens_isOfWord_24 σ = some r) : zx_go 0 29 24 [o0] [] ((119, a, b), zx_pk (zK L) 119, σ, τ, zR) = some (some (.int r), ((119, a, b), zx_pk (zK L) 119, σ, τ, zR)) := by
  unfold zb_Tokens_isOfWord_24 at H
  rw [zs_iconst (z := 1) zd_29_24 (by decide)]
  rw [zs_goto (t := 29) zd_29_25 rfl]
  have H := Option.some.inj H
  subst H
  exact zs_ireturn zd_29_29 (by decide +kernel)
set_option maxRecDepth 20000 in
theorem zt_Tokens_isOfWord_12 {a b L : Nat} {σ : zS} {τ : zT} {v0 : Int32} {r : Int32} (H : zb_Tokens_isOfWord_12 σ v0 = some r) : zx_go 0 29 12 [some (.int v0)] [] ((119, a, b), zx_pk (zK L) 119, σ, τ, zR) = some (some (.int r), ((119, a, b), zx_pk (zK L) 119, σ, τ, zR)) := by
  unfold zb_Tokens_isOfWord_12 at H
  rw [zs_iload_n (ls := [some (.int v0)]) zd_29_12 rfl]
  rw [zs_bipush (z := 48) zd_29_13 (by decide)]
  by_cases c2 : v0 < 48
  · rw [if_pos c2] at H
    rw [zp_icmp_lt_t (x := v0) (y := 48) (t := 28) zd_29_15 rfl c2]
    rw [zs_iconst (z := 0) zd_29_28 (by decide)]
    have H := Option.some.inj H
    subst H
    exact zs_ireturn zd_29_29 (by decide +kernel)
  · rw [if_neg c2] at H
    rw [zp_icmp_lt_f (x := v0) (y := 48) (t := 28) zd_29_15 rfl c2]
    rw [zs_iload_n (ls := [some (.int v0)]) zd_29_18 rfl]
    rw [zs_bipush (z := 57) zd_29_19 (by decide)]
    by_cases c3 : 57 < v0
    · rw [if_pos c3] at H
      rw [zp_icmp_gt_t (x := v0) (y := 57) (t := 28) zd_29_21 rfl c3]
      rw [zs_iconst (z := 0) zd_29_28 (by decide)]
      have H := Option.some.inj H
      subst H
      exact zs_ireturn zd_29_29 (by decide +kernel)
    · rw [if_neg c3] at H
      rw [zp_icmp_gt_f (x := v0) (y := 57) (t := 28) zd_29_21 rfl c3]
      exact zt_Tokens_isOfWord_24  H
set_option maxRecDepth 20000 in
theorem zt_Tokens_isOfWord {a b L : Nat} {σ : zS} {τ : zT} {x1 : Int32} {r : Int32} (H : zf_Tokens_isOfWord σ x1 = some r) : zx_go 0 29 0 [some (.int x1)] [] ((119, a, b), zx_pk (zK L) 119, σ, τ, zR) = some (some (.int r), ((119, a, b), zx_pk (zK L) 119, σ, τ, zR)) := by
  unfold zf_Tokens_isOfWord at H
  rw [zs_iload_n (ls := [some (.int x1)]) zd_29_0 rfl]
  rw [zs_bipush (z := 97) zd_29_1 (by decide)]
  by_cases c1 : x1 < 97
  · rw [if_pos c1] at H
    rw [zp_icmp_lt_t (x := x1) (y := 97) (t := 12) zd_29_3 rfl c1]
    exact zt_Tokens_isOfWord_12  H
  · rw [if_neg c1] at H
    rw [zp_icmp_lt_f (x := x1) (y := 97) (t := 12) zd_29_3 rfl c1]
    rw [zs_iload_n (ls := [some (.int x1)]) zd_29_6 rfl]
    rw [zs_bipush (z := 122) zd_29_7 (by decide)]
    by_cases c4 : x1 ≤ 122
    · rw [if_pos c4] at H
      rw [zp_icmp_le_t (x := x1) (y := 122) (t := 24) zd_29_9 rfl c4]
      exact zt_Tokens_isOfWord_24  H
    · rw [if_neg c4] at H
      rw [zp_icmp_le_f (x := x1) (y := 122) (t := 24) zd_29_9 rfl c4]
      exact zt_Tokens_isOfWord_12  H
set_option maxRecDepth 20000 in
theorem zt_Tokens_isSign {a b L : Nat} {σ : zS} {τ : zT} {x1 : Int32} {r : Int32} (H : zf_Tokens_isSign σ x1 = some r) : zx_go 0 33 0 [some (.int x1)] [] ((119, a, b), zx_pk (zK L) 119, σ, τ, zR) = some (some (.int r), ((119, a, b), zx_pk (zK L) 119, σ, τ, zR)) := by
  unfold zf_Tokens_isSign at H
  rw [zs_iload_n (ls := [some (.int x1)]) zd_33_0 rfl]
  by_cases c1 : x1 = 43
  · rw [if_pos c1] at H
    rw [zs_lookup (x := x1) (off := 75) (t := 76) zd_33_1 (by decide) (by rw [c1]; decide) rfl]
    rw [zs_iconst (z := 1) zd_33_76 (by decide)]
    have H := Option.some.inj H
    subst H
    exact zs_ireturn zd_33_77 (by decide +kernel)
  · rw [if_neg c1] at H
    by_cases c2 : x1 = 45
    · rw [if_pos c2] at H
      rw [zs_lookup (x := x1) (off := 75) (t := 76) zd_33_1 (by decide) (by rw [c2]; decide) rfl]
      rw [zs_iconst (z := 1) zd_33_76 (by decide)]
      have H := Option.some.inj H
      subst H
      exact zs_ireturn zd_33_77 (by decide +kernel)
    · rw [if_neg c2] at H
      by_cases c3 : x1 = 59
      · rw [if_pos c3] at H
        rw [zs_lookup (x := x1) (off := 75) (t := 76) zd_33_1 (by decide) (by rw [c3]; decide) rfl]
        rw [zs_iconst (z := 1) zd_33_76 (by decide)]
        have H := Option.some.inj H
        subst H
        exact zs_ireturn zd_33_77 (by decide +kernel)
      · rw [if_neg c3] at H
        by_cases c4 : x1 = 60
        · rw [if_pos c4] at H
          rw [zs_lookup (x := x1) (off := 75) (t := 76) zd_33_1 (by decide) (by rw [c4]; decide) rfl]
          rw [zs_iconst (z := 1) zd_33_76 (by decide)]
          have H := Option.some.inj H
          subst H
          exact zs_ireturn zd_33_77 (by decide +kernel)
        · rw [if_neg c4] at H
          by_cases c5 : x1 = 61
          · rw [if_pos c5] at H
            rw [zs_lookup (x := x1) (off := 75) (t := 76) zd_33_1 (by decide) (by rw [c5]; decide) rfl]
            rw [zs_iconst (z := 1) zd_33_76 (by decide)]
            have H := Option.some.inj H
            subst H
            exact zs_ireturn zd_33_77 (by decide +kernel)
          · rw [if_neg c5] at H
            by_cases c6 : x1 = 62
            · rw [if_pos c6] at H
              rw [zs_lookup (x := x1) (off := 75) (t := 76) zd_33_1 (by decide) (by rw [c6]; decide) rfl]
              rw [zs_iconst (z := 1) zd_33_76 (by decide)]
              have H := Option.some.inj H
              subst H
              exact zs_ireturn zd_33_77 (by decide +kernel)
            · rw [if_neg c6] at H
              by_cases c7 : x1 = 123
              · rw [if_pos c7] at H
                rw [zs_lookup (x := x1) (off := 75) (t := 76) zd_33_1 (by decide) (by rw [c7]; decide) rfl]
                rw [zs_iconst (z := 1) zd_33_76 (by decide)]
                have H := Option.some.inj H
                subst H
                exact zs_ireturn zd_33_77 (by decide +kernel)
              · rw [if_neg c7] at H
                by_cases c8 : x1 = 125
                · rw [if_pos c8] at H
                  rw [zs_lookup (x := x1) (off := 75) (t := 76) zd_33_1 (by decide) (by rw [c8]; decide) rfl]
                  rw [zs_iconst (z := 1) zd_33_76 (by decide)]
                  have H := Option.some.inj H
                  subst H
                  exact zs_ireturn zd_33_77 (by decide +kernel)
                · rw [if_neg c8] at H
                  rw [zs_lookup (x := x1) (off := 77) (t := 78) zd_33_1 (by decide) (Eq.trans (if_neg (zJ_ne (x := x1) (z := 43) (a := 43) c1 rfl)) (Eq.trans (if_neg (zJ_ne (x := x1) (z := 45) (a := 45) c2 rfl)) (Eq.trans (if_neg (zJ_ne (x := x1) (z := 59) (a := 59) c3 rfl)) (Eq.trans (if_neg (zJ_ne (x := x1) (z := 60) (a := 60) c4 rfl)) (Eq.trans (if_neg (zJ_ne (x := x1) (z := 61) (a := 61) c5 rfl)) (Eq.trans (if_neg (zJ_ne (x := x1) (z := 62) (a := 62) c6 rfl)) (Eq.trans (if_neg (zJ_ne (x := x1) (z := 123) (a := 123) c7 rfl)) (Eq.trans (if_neg (zJ_ne (x := x1) (z := 125) (a := 125) c8 rfl)) rfl)))))))) rfl]
                  rw [zs_iconst (z := 0) zd_33_78 (by decide)]
                  have H := Option.some.inj H
                  subst H
                  exact zs_ireturn zd_33_79 (by decide +kernel)
set_option maxRecDepth 20000 in
theorem zt_Tokens_takeSign_66 {a b L : Nat} {σ : zS} {τ : zT} {s0 : Int32} {o1 : Option Value} {r : Int32 × zS} (H : zb_Tokens_takeSign_66 σ s0 = some r) : zx_go 1 32 66 [some (.ref 25), o1] [.int s0, .ref 25] ((119, a, b), zx_pk (zK L) 119, σ, τ, zR) = some (some (.int r.1), ((119, a, b), zx_pk (zK L) 119, r.2, τ, zR)) := by
  unfold zb_Tokens_takeSign_66 at H
  rw [zs_putI (n := 119) (K := zx_pk (zK L) 119) (c := 9) (k := 7) (q := 25) (x := s0) zd_32_66 rfl rfl (by decide +kernel) rfl (by decide)]
  rw [zs_aload_n (ls := [some (.ref 25), o1]) zd_32_69 rfl]
  rw [zp_getI (n := 119) (K := zx_pk (zK L) 119) (σ := (zx_up σ 25 7 s0)) (c := 9) (k := 8) (q := 25) (v := (σ 25 8)) zd_32_70 rfl rfl rfl (by decide) (show ((zx_up σ 25 7 s0) : zS) 25 8 = (σ 25 8) from ((zx_up_nj (by decide)).trans rfl))]
  rw [zs_iconst (z := 1) zd_32_73 (by decide)]
  rw [zp_iadd (x := (σ 25 8)) (y := 1) (z := ((σ 25 8) + 1)) zd_32_74 rfl]
  have H := Option.some.inj H
  subst H
  exact zs_ireturn zd_32_75 rfl
set_option maxRecDepth 20000 in
theorem zt_Tokens_takeSign_53 {a b L : Nat} {σ : zS} {τ : zT} {v1 : Int32} {r : Int32 × zS} (H : zb_Tokens_takeSign_53 σ v1 = some r) : zx_go 1 32 53 [some (.ref 25), some (.int v1)] [] ((119, a, b), zx_pk (zK L) 119, σ, τ, zR) = some (some (.int r.1), ((119, a, b), zx_pk (zK L) 119, r.2, τ, zR)) := by
  unfold zb_Tokens_takeSign_53 at H
  rw [zs_aload_n (ls := [some (.ref 25), some (.int v1)]) zd_32_53 rfl]
  rw [zs_iload_n (ls := [some (.ref 25), some (.int v1)]) zd_32_54 rfl]
  obtain ⟨r4, hr4, H⟩ := Option.bind_eq_some_iff.mp H
  rw [zp_callSi (x := r4) (st := [.int v1, .ref 25]) (as := [.int v1]) (rest := [.ref 25]) (e := 0) zd_32_55 rfl (by decide +kernel) (by decide) rfl rfl (Nat.le_of_ble_eq_true rfl) rfl (Nat.le_of_ble_eq_true rfl) rfl (by decide) (zt_Tokens_isSign hr4)]
  by_cases c5 : r4 = 0
  · rw [if_pos c5] at H
    rw [zp_if_eq_t (x := r4) (t := 65) zd_32_58 rfl c5]
    rw [zs_iconst (z := 1) zd_32_65 (by decide)]
    exact zt_Tokens_takeSign_66  H
  · rw [if_neg c5] at H
    rw [zp_if_eq_f (x := r4) (t := 65) zd_32_58 rfl c5]
    rw [zs_iload_n (ls := [some (.ref 25), some (.int v1)]) zd_32_61 rfl]
    rw [zs_goto (t := 66) zd_32_62 rfl]
    exact zt_Tokens_takeSign_66  H
set_option maxRecDepth 20000 in
theorem zt_Tokens_takeSign_43 {a b L : Nat} {σ : zS} {τ : zT} {s0 : Int32} {o1 : Option Value} {r : Int32 × zS} (H : zb_Tokens_takeSign_43 σ s0 = some r) : zx_go 1 32 43 [some (.ref 25), o1] [.int s0, .ref 25] ((119, a, b), zx_pk (zK L) 119, σ, τ, zR) = some (some (.int r.1), ((119, a, b), zx_pk (zK L) 119, r.2, τ, zR)) := by
  unfold zb_Tokens_takeSign_43 at H
  rw [zs_putI (n := 119) (K := zx_pk (zK L) 119) (c := 9) (k := 7) (q := 25) (x := s0) zd_32_43 rfl rfl (by decide +kernel) rfl (by decide)]
  rw [zs_aload_n (ls := [some (.ref 25), o1]) zd_32_46 rfl]
  rw [zp_getI (n := 119) (K := zx_pk (zK L) 119) (σ := (zx_up σ 25 7 s0)) (c := 9) (k := 8) (q := 25) (v := (σ 25 8)) zd_32_47 rfl rfl rfl (by decide) (show ((zx_up σ 25 7 s0) : zS) 25 8 = (σ 25 8) from ((zx_up_nj (by decide)).trans rfl))]
  rw [zs_iconst (z := 2) zd_32_50 (by decide)]
  rw [zp_iadd (x := (σ 25 8)) (y := 2) (z := ((σ 25 8) + 2)) zd_32_51 rfl]
  have H := Option.some.inj H
  subst H
  exact zs_ireturn zd_32_52 rfl
set_option maxRecDepth 20000 in
theorem zt_Tokens_takeSign_12 {a b L : Nat} {σ : zS} {τ : zT} {v1 : Int32} {r : Int32 × zS} (H : zb_Tokens_takeSign_12 σ v1 = some r) : zx_go 1 32 12 [some (.ref 25), some (.int v1)] [] ((119, a, b), zx_pk (zK L) 119, σ, τ, zR) = some (some (.int r.1), ((119, a, b), zx_pk (zK L) 119, r.2, τ, zR)) := by
  unfold zb_Tokens_takeSign_12 at H
  rw [zs_aload_n (ls := [some (.ref 25), some (.int v1)]) zd_32_12 rfl]
  rw [zs_aload_n (ls := [some (.ref 25), some (.int v1)]) zd_32_13 rfl]
  rw [zp_getI (n := 119) (K := zx_pk (zK L) 119) (σ := σ) (c := 9) (k := 8) (q := 25) (v := (σ 25 8)) zd_32_14 rfl rfl rfl (by decide) rfl]
  rw [zs_iconst (z := 1) zd_32_17 (by decide)]
  rw [zp_iadd (x := (σ 25 8)) (y := 1) (z := ((σ 25 8) + 1)) zd_32_18 rfl]
  obtain ⟨r2, hr2, H⟩ := Option.bind_eq_some_iff.mp H
  rw [zp_callVi (x := r2) (st := [.int ((σ 25 8) + 1), .ref 25]) (as := [.ref 25, .int ((σ 25 8) + 1)]) (rest := []) (e := 0) zd_32_19 rfl (by decide +kernel) (by decide) rfl rfl (Nat.le_of_ble_eq_true rfl) (zx_rcb_ok rfl (show 25 < 119 by decide)) (Nat.le_of_ble_eq_true rfl) rfl (by decide) (zt_Tokens_byteAt hr2)]
  rw [zs_bipush (z := 61) zd_32_22 (by decide)]
  by_cases c3 : ¬ r2 = 61
  · rw [if_pos c3] at H
    rw [zp_icmp_ne_t (x := r2) (y := 61) (t := 53) zd_32_24 rfl c3]
    exact zt_Tokens_takeSign_53  H
  · rw [if_neg c3] at H
    rw [zp_icmp_ne_f (x := r2) (y := 61) (t := 53) zd_32_24 rfl c3]
    rw [zs_aload_n (ls := [some (.ref 25), some (.int v1)]) zd_32_27 rfl]
    rw [zs_iload_n (ls := [some (.ref 25), some (.int v1)]) zd_32_28 rfl]
    rw [zs_bipush (z := 61) zd_32_29 (by decide)]
    by_cases c6 : ¬ v1 = 61
    · rw [if_pos c6] at H
      rw [zp_icmp_ne_t (x := v1) (y := 61) (t := 40) zd_32_31 rfl c6]
      rw [zs_sipush (z := 257) zd_32_40 (by decide)]
      exact zt_Tokens_takeSign_43  H
    · rw [if_neg c6] at H
      rw [zp_icmp_ne_f (x := v1) (y := 61) (t := 40) zd_32_31 rfl c6]
      rw [zs_sipush (z := 256) zd_32_34 (by decide)]
      rw [zs_goto (t := 43) zd_32_37 rfl]
      exact zt_Tokens_takeSign_43  H
set_option maxRecDepth 20000 in
theorem zt_Tokens_takeSign {a b L : Nat} {σ : zS} {τ : zT} {x1 : Int32} {r : Int32 × zS} (H : zf_Tokens_takeSign σ x1 = some r) : zx_go 1 32 0 [some (.ref 25), some (.int x1)] [] ((119, a, b), zx_pk (zK L) 119, σ, τ, zR) = some (some (.int r.1), ((119, a, b), zx_pk (zK L) 119, r.2, τ, zR)) := by
  unfold zf_Tokens_takeSign at H
  rw [zs_iload_n (ls := [some (.ref 25), some (.int x1)]) zd_32_0 rfl]
  rw [zs_bipush (z := 61) zd_32_1 (by decide)]
  by_cases c1 : x1 = 61
  · rw [if_pos c1] at H
    rw [zp_icmp_eq_t (x := x1) (y := 61) (t := 12) zd_32_3 rfl c1]
    exact zt_Tokens_takeSign_12  H
  · rw [if_neg c1] at H
    rw [zp_icmp_eq_f (x := x1) (y := 61) (t := 12) zd_32_3 rfl c1]
    rw [zs_iload_n (ls := [some (.ref 25), some (.int x1)]) zd_32_6 rfl]
    rw [zs_bipush (z := 33) zd_32_7 (by decide)]
    by_cases c7 : ¬ x1 = 33
    · rw [if_pos c7] at H
      rw [zp_icmp_ne_t (x := x1) (y := 33) (t := 53) zd_32_9 rfl c7]
      exact zt_Tokens_takeSign_53  H
    · rw [if_neg c7] at H
      rw [zp_icmp_ne_f (x := x1) (y := 33) (t := 53) zd_32_9 rfl c7]
      exact zt_Tokens_takeSign_12  H
set_option maxRecDepth 20000 in
theorem zt_Tokens_takeWord_108 {a b L N : Nat} {k70 : zS → zT → Int32 → Int32 → Option (Int32 × zS × zT)} (hk70 : ∀ {σ : zS} {τ : zT} {v1 : Int32} {v2 : Int32} {r : Int32 × zS × zT}, k70 σ τ v1 v2 = some r → zx_go 1 31 70 [some (.ref 25), some (.int v1), some (.int v2)] [] ((119, a, b), zx_pk (zK L) 119, σ, τ, zR) = some (some (.int r.1), ((119, a, b), zx_pk (zK L) 119, r.2.1, r.2.2, zR))) {σ : zS} {τ : zT} {v1 : Int32} {v2 : Int32} {r : Int32 × zS × zT} (H : zb_Tokens_takeWord_108 k70 N σ τ v1 v2 = some r) : zx_go 1 31 108 [some (.ref 25), some (.int v1), some (.int v2)] [] ((119, a, b), zx_pk (zK L) 119, σ, τ, zR) = some (some (.int r.1), ((119, a, b), zx_pk (zK L) 119, r.2.1, r.2.2, zR)) := by
  unfold zb_Tokens_takeWord_108 at H
  rw [zs_iinc (ls := [some (.ref 25), some (.int v1), some (.int v2)]) (x := v2) (z := (v2 + 1)) (ls' := [some (.ref 25), some (.int v1), some (.int (v2 + 1))]) zd_31_108 rfl rfl rfl]
  rw [zs_goto (t := 70) zd_31_111 rfl]
  exact hk70 H
set_option maxRecDepth 20000 in
theorem zt_Tokens_takeWord_70 {a b L N : Nat} : ∀ {n : Nat} {σ : zS} {τ : zT} {v1 : Int32} {v2 : Int32} {r : Int32 × zS × zT}, zb_Tokens_takeWord_70 N n σ τ v1 v2 = some r → zx_go 1 31 70 [some (.ref 25), some (.int v1), some (.int v2)] [] ((119, a, b), zx_pk (zK L) 119, σ, τ, zR) = some (some (.int r.1), ((119, a, b), zx_pk (zK L) 119, r.2.1, r.2.2, zR)) := by
  intro n
  induction n with
  | zero =>
    intro _ _ _ _ _ H
    cases H
  | succ n ih =>
    intro σ τ v1 v2 r H
    rw [zb_Tokens_takeWord_70] at H
    rw [zs_iload_n (ls := [some (.ref 25), some (.int v1), some (.int v2)]) zd_31_70 rfl]
    rw [zs_getstatic (q := 1) zd_31_71 rfl]
    rw [zs_arraylength (n := 119) (K := zx_pk (zK L) 119) (q := 1) (m := 15) (z := 15) zd_31_74 rfl (by decide) (by decide)]
    by_cases c3 : 15 ≤ v2
    · rw [if_pos c3] at H
      rw [zp_icmp_ge_t (x := v2) (y := 15) (t := 114) zd_31_75 rfl c3]
      rw [zs_iload_n (ls := [some (.ref 25), some (.int v1), some (.int v2)]) zd_31_114 rfl]
      have H := Option.some.inj H
      subst H
      exact zs_ireturn zd_31_115 rfl
    · rw [if_neg c3] at H
      rw [zp_icmp_ge_f (x := v2) (y := 15) (t := 114) zd_31_75 rfl c3]
      rw [zs_aload_n (ls := [some (.ref 25), some (.int v1), some (.int v2)]) zd_31_78 rfl]
      rw [zp_getI (n := 119) (K := zx_pk (zK L) 119) (σ := σ) (c := 9) (k := 7) (q := 25) (v := (σ 25 7)) zd_31_79 rfl rfl rfl (by decide) rfl]
      rw [zs_iconst (z := 3) zd_31_82 (by decide)]
      by_cases c4 : ¬ (σ 25 7) = 3
      · rw [if_pos c4] at H
        rw [zp_icmp_ne_t (x := (σ 25 7)) (y := 3) (t := 114) zd_31_83 rfl c4]
        rw [zs_iload_n (ls := [some (.ref 25), some (.int v1), some (.int v2)]) zd_31_114 rfl]
        have H := Option.some.inj H
        subst H
        exact zs_ireturn zd_31_115 rfl
      · rw [if_neg c4] at H
        rw [zp_icmp_ne_f (x := (σ 25 7)) (y := 3) (t := 114) zd_31_83 rfl c4]
        rw [zs_getstatic (q := 1) zd_31_86 rfl]
        rw [zs_iload_n (ls := [some (.ref 25), some (.int v1), some (.int v2)]) zd_31_89 rfl]
        by_cases c5 : 0 ≤ v2 ∧ v2 < 15
        · rw [if_pos c5] at H
          rw [zp_laload (n := 119) (K := zx_pk (zK L) 119) (τ := τ) (q := 1) (m := 15) (i := v2) (k := v2.toNatClampNeg) (v := (τ 1 v2.toNatClampNeg)) zd_31_90 rfl (by decide) (zJ_in c5 rfl) rfl rfl]
          rw [zs_aload_n (ls := [some (.ref 25), some (.int v1), some (.int v2)]) zd_31_91 rfl]
          rw [zp_getL (n := 119) (K := zx_pk (zK L) 119) (τ := τ) (c := 9) (k := 9) (q := 25) (v := (τ 25 9)) zd_31_92 rfl rfl rfl (by decide) rfl]
          rw [zp_lcmp (x := (τ 1 v2.toNatClampNeg)) (y := (τ 25 9)) (z := (lg_cmp (τ 1 v2.toNatClampNeg) (τ 25 9))) zd_31_95 rfl]
          by_cases c6 : ¬ (τ 1 v2.toNatClampNeg) = (τ 25 9)
          · rw [if_pos c6] at H
            rw [zp_if_ne_t (x := (lg_cmp (τ 1 v2.toNatClampNeg) (τ 25 9))) (t := 108) zd_31_96 rfl (fun q => c6 (zJ_lc.mpr q))]
            exact zt_Tokens_takeWord_108 (hk70 := ih) H
          · rw [if_neg c6] at H
            rw [zp_if_ne_f (x := (lg_cmp (τ 1 v2.toNatClampNeg) (τ 25 9))) (t := 108) zd_31_96 rfl (fun q => c6 (fun q2 => q (zJ_lc.mp q2)))]
            rw [zs_aload_n (ls := [some (.ref 25), some (.int v1), some (.int v2)]) zd_31_99 rfl]
            rw [zs_sipush (z := 300) zd_31_100 (by decide)]
            rw [zs_iload_n (ls := [some (.ref 25), some (.int v1), some (.int v2)]) zd_31_103 rfl]
            rw [zp_iadd (x := 300) (y := v2) (z := (300 + v2)) zd_31_104 rfl]
            rw [zs_putI (n := 119) (K := zx_pk (zK L) 119) (c := 9) (k := 7) (q := 25) (x := (300 + v2)) zd_31_105 rfl rfl (by decide +kernel) rfl (by decide)]
            exact zt_Tokens_takeWord_108 (hk70 := ih) H
        · rw [if_neg c5] at H
          cases H
set_option maxRecDepth 20000 in
theorem zt_Tokens_takeWord_65 {a b L N : Nat} {σ : zS} {τ : zT} {v1 : Int32} {s0 : Int32} {o2 : Option Value} {r : Int32 × zS × zT} (H : zb_Tokens_takeWord_65 N σ τ v1 s0 = some r) : zx_go 1 31 65 [some (.ref 25), some (.int v1), o2] [.int s0, .ref 25] ((119, a, b), zx_pk (zK L) 119, σ, τ, zR) = some (some (.int r.1), ((119, a, b), zx_pk (zK L) 119, r.2.1, r.2.2, zR)) := by
  unfold zb_Tokens_takeWord_65 at H
  rw [zs_putI (n := 119) (K := zx_pk (zK L) 119) (c := 9) (k := 7) (q := 25) (x := s0) zd_31_65 rfl rfl (by decide +kernel) rfl (by decide)]
  rw [zs_iconst (z := 0) zd_31_68 (by decide)]
  rw [zs_istore_n (x := 0) (ls' := [some (.ref 25), some (.int v1), some (.int 0)]) zd_31_69 (Nat.le_of_ble_eq_true rfl) rfl]
  exact zt_Tokens_takeWord_70  H
set_option maxRecDepth 20000 in
theorem zt_Tokens_takeWord_48 {a b L N : Nat} {σ : zS} {τ : zT} {v1 : Int32} {o2 : Option Value} {r : Int32 × zS × zT} (H : zb_Tokens_takeWord_48 N σ τ v1 = some r) : zx_go 1 31 48 [some (.ref 25), some (.int v1), o2] [] ((119, a, b), zx_pk (zK L) 119, σ, τ, zR) = some (some (.int r.1), ((119, a, b), zx_pk (zK L) 119, r.2.1, r.2.2, zR)) := by
  unfold zb_Tokens_takeWord_48 at H
  rw [zs_aload_n (ls := [some (.ref 25), some (.int v1), o2]) zd_31_48 rfl]
  rw [zs_iload_n (ls := [some (.ref 25), some (.int v1), o2]) zd_31_49 rfl]
  rw [zs_aload_n (ls := [some (.ref 25), some (.int v1), o2]) zd_31_50 rfl]
  rw [zp_getI (n := 119) (K := zx_pk (zK L) 119) (σ := σ) (c := 9) (k := 8) (q := 25) (v := (σ 25 8)) zd_31_51 rfl rfl rfl (by decide) rfl]
  rw [zp_isub (x := v1) (y := (σ 25 8)) (z := (v1 - (σ 25 8))) zd_31_54 rfl]
  rw [zs_bipush (z := 6) zd_31_55 (by decide)]
  by_cases c2 : (v1 - (σ 25 8)) ≤ 6
  · rw [if_pos c2] at H
    rw [zp_icmp_le_t (x := (v1 - (σ 25 8))) (y := 6) (t := 64) zd_31_57 rfl c2]
    rw [zs_iconst (z := 3) zd_31_64 (by decide)]
    exact zt_Tokens_takeWord_65  H
  · rw [if_neg c2] at H
    rw [zp_icmp_le_f (x := (v1 - (σ 25 8))) (y := 6) (t := 64) zd_31_57 rfl c2]
    rw [zs_iconst (z := 1) zd_31_60 (by decide)]
    rw [zs_goto (t := 65) zd_31_61 rfl]
    exact zt_Tokens_takeWord_65  H
set_option maxRecDepth 20000 in
theorem zt_Tokens_takeWord_5 {a b L N : Nat} : ∀ {n : Nat} {σ : zS} {τ : zT} {v1 : Int32} {o2 : Option Value} {r : Int32 × zS × zT}, zb_Tokens_takeWord_5 N n σ τ v1 = some r → zx_go 1 31 5 [some (.ref 25), some (.int v1), o2] [] ((119, a, b), zx_pk (zK L) 119, σ, τ, zR) = some (some (.int r.1), ((119, a, b), zx_pk (zK L) 119, r.2.1, r.2.2, zR)) := by
  intro n
  induction n with
  | zero =>
    intro _ _ _ _ _ H
    cases H
  | succ n ih =>
    intro σ τ v1 o2 r H
    rw [zb_Tokens_takeWord_5] at H
    rw [zs_iload_n (ls := [some (.ref 25), some (.int v1), o2]) zd_31_5 rfl]
    rw [zs_aload_n (ls := [some (.ref 25), some (.int v1), o2]) zd_31_6 rfl]
    rw [zp_getI (n := 119) (K := zx_pk (zK L) 119) (σ := σ) (c := 9) (k := 4) (q := 25) (v := (σ 25 4)) zd_31_7 rfl rfl rfl (by decide) rfl]
    by_cases c1 : (σ 25 4) ≤ v1
    · rw [if_pos c1] at H
      rw [zp_icmp_ge_t (x := v1) (y := (σ 25 4)) (t := 48) zd_31_10 rfl c1]
      exact zt_Tokens_takeWord_48  H
    · rw [if_neg c1] at H
      rw [zp_icmp_ge_f (x := v1) (y := (σ 25 4)) (t := 48) zd_31_10 rfl c1]
      rw [zs_aload_n (ls := [some (.ref 25), some (.int v1), o2]) zd_31_13 rfl]
      rw [zs_iload_n (ls := [some (.ref 25), some (.int v1), o2]) zd_31_14 rfl]
      obtain ⟨r7, hr7, H⟩ := Option.bind_eq_some_iff.mp H
      rw [zp_callVi (x := r7) (st := [.int v1, .ref 25]) (as := [.ref 25, .int v1]) (rest := []) (e := 0) zd_31_15 rfl (by decide +kernel) (by decide) rfl rfl (Nat.le_of_ble_eq_true rfl) (zx_rcb_ok rfl (show 25 < 119 by decide)) (Nat.le_of_ble_eq_true rfl) rfl (by decide) (zt_Tokens_byteAt hr7)]
      obtain ⟨r8, hr8, H⟩ := Option.bind_eq_some_iff.mp H
      rw [zp_callSi (x := r8) (st := [.int r7]) (as := [.int r7]) (rest := []) (e := 0) zd_31_18 rfl (by decide +kernel) (by decide) rfl rfl (Nat.le_of_ble_eq_true rfl) rfl (Nat.le_of_ble_eq_true rfl) rfl (by decide) (zt_Tokens_isOfWord hr8)]
      by_cases c9 : r8 = 0
      · rw [if_pos c9] at H
        rw [zp_if_eq_t (x := r8) (t := 48) zd_31_21 rfl c9]
        exact zt_Tokens_takeWord_48  H
      · rw [if_neg c9] at H
        rw [zp_if_eq_f (x := r8) (t := 48) zd_31_21 rfl c9]
        rw [zs_aload_n (ls := [some (.ref 25), some (.int v1), o2]) zd_31_24 rfl]
        rw [zs_aload_n (ls := [some (.ref 25), some (.int v1), o2]) zd_31_25 rfl]
        rw [zp_getL (n := 119) (K := zx_pk (zK L) 119) (τ := τ) (c := 9) (k := 9) (q := 25) (v := (τ 25 9)) zd_31_26 rfl rfl rfl (by decide) rfl]
        rw [zs_bipush (z := 8) zd_31_29 (by decide)]
        rw [zp_lshl (x := (τ 25 9)) (y := 8) (z := (zJ_lshl (τ 25 9) 8)) zd_31_31 rfl]
        rw [zs_aload_n (ls := [some (.ref 25), some (.int v1), o2]) zd_31_32 rfl]
        rw [zs_iload_n (ls := [some (.ref 25), some (.int v1), o2]) zd_31_33 rfl]
        obtain ⟨r10, hr10, H⟩ := Option.bind_eq_some_iff.mp H
        rw [zp_callVi (x := r10) (st := [.int v1, .ref 25, .long (zJ_lshl (τ 25 9) 8), .ref 25]) (as := [.ref 25, .int v1]) (rest := [.long (zJ_lshl (τ 25 9) 8), .ref 25]) (e := 0) zd_31_34 rfl (by decide +kernel) (by decide) rfl rfl (Nat.le_of_ble_eq_true rfl) (zx_rcb_ok rfl (show 25 < 119 by decide)) (Nat.le_of_ble_eq_true rfl) rfl (by decide) (zt_Tokens_byteAt hr10)]
        rw [zp_i2l (x := r10) (z := (r10 : Int32).toInt64) zd_31_37 rfl]
        rw [zp_lor (x := (zJ_lshl (τ 25 9) 8)) (y := (r10 : Int32).toInt64) (z := ((zJ_lshl (τ 25 9) 8) ||| (r10 : Int32).toInt64)) zd_31_38 rfl]
        rw [zs_putL (n := 119) (K := zx_pk (zK L) 119) (c := 9) (k := 9) (q := 25) (x := ((zJ_lshl (τ 25 9) 8) ||| (r10 : Int32).toInt64)) zd_31_39 rfl rfl (by decide +kernel) rfl (by decide)]
        rw [zs_iinc (ls := [some (.ref 25), some (.int v1), o2]) (x := v1) (z := (v1 + 1)) (ls' := [some (.ref 25), some (.int (v1 + 1)), o2]) zd_31_42 rfl rfl rfl]
        rw [zs_goto (t := 5) zd_31_45 rfl]
        exact ih H
set_option maxRecDepth 20000 in
theorem zt_Tokens_takeWord {a b L N : Nat} {σ : zS} {τ : zT} {r : Int32 × zS × zT} (H : zf_Tokens_takeWord N σ τ = some r) : zx_go 1 31 0 [some (.ref 25), none, none] [] ((119, a, b), zx_pk (zK L) 119, σ, τ, zR) = some (some (.int r.1), ((119, a, b), zx_pk (zK L) 119, r.2.1, r.2.2, zR)) := by
  unfold zf_Tokens_takeWord at H
  rw [zs_aload_n (ls := [some (.ref 25), none, none]) zd_31_0 rfl]
  rw [zp_getI (n := 119) (K := zx_pk (zK L) 119) (σ := σ) (c := 9) (k := 8) (q := 25) (v := (σ 25 8)) zd_31_1 rfl rfl rfl (by decide) rfl]
  rw [zs_istore_n (x := (σ 25 8)) (ls' := [some (.ref 25), some (.int (σ 25 8)), none]) zd_31_4 (Nat.le_of_ble_eq_true rfl) rfl]
  exact zt_Tokens_takeWord_5  H
set_option maxRecDepth 20000 in
theorem zt_Tokens_takeNumber_37 {a b L : Nat} {σ : zS} {τ : zT} {s0 : Int32} {o1 : Option Value} {r : Int32 × zS × zT} (H : zb_Tokens_takeNumber_37 σ τ s0 = some r) : zx_go 1 30 37 [some (.ref 25), o1] [.int s0, .ref 25] ((119, a, b), zx_pk (zK L) 119, σ, τ, zR) = some (some (.int r.1), ((119, a, b), zx_pk (zK L) 119, r.2.1, r.2.2, zR)) := by
  unfold zb_Tokens_takeNumber_37 at H
  rw [zs_putI (n := 119) (K := zx_pk (zK L) 119) (c := 9) (k := 7) (q := 25) (x := s0) zd_30_37 rfl rfl (by decide +kernel) rfl (by decide)]
  rw [zs_aload_n (ls := [some (.ref 25), o1]) zd_30_40 rfl]
  rw [zp_getI (n := 119) (K := zx_pk (zK L) 119) (σ := (zx_up σ 25 7 s0)) (c := 9) (k := 8) (q := 25) (v := (σ 25 8)) zd_30_41 rfl rfl rfl (by decide) (show ((zx_up σ 25 7 s0) : zS) 25 8 = (σ 25 8) from ((zx_up_nj (by decide)).trans rfl))]
  rw [zs_iconst (z := 1) zd_30_44 (by decide)]
  rw [zp_iadd (x := (σ 25 8)) (y := 1) (z := ((σ 25 8) + 1)) zd_30_45 rfl]
  have H := Option.some.inj H
  subst H
  exact zs_ireturn zd_30_46 rfl
set_option maxRecDepth 20000 in
theorem zt_Tokens_takeNumber_32 {a b L : Nat} {σ : zS} {τ : zT} {o1 : Option Value} {r : Int32 × zS × zT} (H : zb_Tokens_takeNumber_32 σ τ = some r) : zx_go 1 30 32 [some (.ref 25), o1] [.ref 25] ((119, a, b), zx_pk (zK L) 119, σ, τ, zR) = some (some (.int r.1), ((119, a, b), zx_pk (zK L) 119, r.2.1, r.2.2, zR)) := by
  unfold zb_Tokens_takeNumber_32 at H
  rw [zs_iconst (z := 1) zd_30_32 (by decide)]
  rw [zs_goto (t := 37) zd_30_33 rfl]
  exact zt_Tokens_takeNumber_37  H
set_option maxRecDepth 20000 in
theorem zt_Tokens_takeNumber {a b L : Nat} {σ : zS} {τ : zT} {x1 : Int32} {r : Int32 × zS × zT} (H : zf_Tokens_takeNumber σ τ x1 = some r) : zx_go 1 30 0 [some (.ref 25), some (.int x1)] [] ((119, a, b), zx_pk (zK L) 119, σ, τ, zR) = some (some (.int r.1), ((119, a, b), zx_pk (zK L) 119, r.2.1, r.2.2, zR)) := by
  unfold zf_Tokens_takeNumber at H
  rw [zs_aload_n (ls := [some (.ref 25), some (.int x1)]) zd_30_0 rfl]
  rw [zs_iload_n (ls := [some (.ref 25), some (.int x1)]) zd_30_1 rfl]
  rw [zs_bipush (z := 48) zd_30_2 (by decide)]
  rw [zp_isub (x := x1) (y := 48) (z := (x1 - 48)) zd_30_4 rfl]
  rw [zp_i2l (x := (x1 - 48)) (z := ((x1 - 48) : Int32).toInt64) zd_30_5 rfl]
  rw [zs_putL (n := 119) (K := zx_pk (zK L) 119) (c := 9) (k := 9) (q := 25) (x := ((x1 - 48) : Int32).toInt64) zd_30_6 rfl rfl (by decide +kernel) rfl (by decide)]
  rw [zs_aload_n (ls := [some (.ref 25), some (.int x1)]) zd_30_9 rfl]
  rw [zs_iload_n (ls := [some (.ref 25), some (.int x1)]) zd_30_10 rfl]
  rw [zs_bipush (z := 55) zd_30_11 (by decide)]
  by_cases c1 : 55 < x1
  · rw [if_pos c1] at H
    rw [zp_icmp_gt_t (x := x1) (y := 55) (t := 32) zd_30_13 rfl c1]
    exact zt_Tokens_takeNumber_32  H
  · rw [if_neg c1] at H
    rw [zp_icmp_gt_f (x := x1) (y := 55) (t := 32) zd_30_13 rfl c1]
    rw [zs_aload_n (ls := [some (.ref 25), some (.int x1)]) zd_30_16 rfl]
    rw [zs_aload_n (ls := [some (.ref 25), some (.int x1)]) zd_30_17 rfl]
    rw [zp_getI (n := 119) (K := zx_pk (zK L) 119) (σ := σ) (c := 9) (k := 8) (q := 25) (v := (σ 25 8)) zd_30_18 rfl rfl rfl (by decide) rfl]
    rw [zs_iconst (z := 1) zd_30_21 (by decide)]
    rw [zp_iadd (x := (σ 25 8)) (y := 1) (z := ((σ 25 8) + 1)) zd_30_22 rfl]
    obtain ⟨r2, hr2, H⟩ := Option.bind_eq_some_iff.mp H
    rw [zp_callVi (x := r2) (st := [.int ((σ 25 8) + 1), .ref 25, .ref 25]) (as := [.ref 25, .int ((σ 25 8) + 1)]) (rest := [.ref 25]) (e := 0) zd_30_23 rfl (by decide +kernel) (by decide) rfl rfl (Nat.le_of_ble_eq_true rfl) (zx_rcb_ok rfl (show 25 < 119 by decide)) (Nat.le_of_ble_eq_true rfl) rfl (by decide) (zt_Tokens_byteAt hr2)]
    obtain ⟨r3, hr3, H⟩ := Option.bind_eq_some_iff.mp H
    rw [zp_callSi (x := r3) (st := [.int r2, .ref 25]) (as := [.int r2]) (rest := [.ref 25]) (e := 0) zd_30_26 rfl (by decide +kernel) (by decide) rfl rfl (Nat.le_of_ble_eq_true rfl) rfl (Nat.le_of_ble_eq_true rfl) rfl (by decide) (zt_Tokens_isOfWord hr3)]
    by_cases c4 : r3 = 0
    · rw [if_pos c4] at H
      rw [zp_if_eq_t (x := r3) (t := 36) zd_30_29 rfl c4]
      rw [zs_iconst (z := 2) zd_30_36 (by decide)]
      exact zt_Tokens_takeNumber_37  H
    · rw [if_neg c4] at H
      rw [zp_if_eq_f (x := r3) (t := 36) zd_30_29 rfl c4]
      exact zt_Tokens_takeNumber_32  H
set_option maxRecDepth 20000 in
theorem zt_Tokens_isBlank_12 {a b L : Nat} {σ : zS} {τ : zT} {o0 : Option Value} {r : Int32} (H : zb_Tokens_isBlank_12 σ = some r) : zx_go 0 28 12 [o0] [] ((119, a, b), zx_pk (zK L) 119, σ, τ, zR) = some (some (.int r), ((119, a, b), zx_pk (zK L) 119, σ, τ, zR)) := by
  unfold zb_Tokens_isBlank_12 at H
  rw [zs_iconst (z := 1) zd_28_12 (by decide)]
  rw [zs_goto (t := 17) zd_28_13 rfl]
  have H := Option.some.inj H
  subst H
  exact zs_ireturn zd_28_17 (by decide +kernel)
set_option maxRecDepth 20000 in
theorem zt_Tokens_isBlank {a b L : Nat} {σ : zS} {τ : zT} {x1 : Int32} {r : Int32} (H : zf_Tokens_isBlank σ x1 = some r) : zx_go 0 28 0 [some (.int x1)] [] ((119, a, b), zx_pk (zK L) 119, σ, τ, zR) = some (some (.int r), ((119, a, b), zx_pk (zK L) 119, σ, τ, zR)) := by
  unfold zf_Tokens_isBlank at H
  rw [zs_iload_n (ls := [some (.int x1)]) zd_28_0 rfl]
  rw [zs_bipush (z := 32) zd_28_1 (by decide)]
  by_cases c1 : x1 = 32
  · rw [if_pos c1] at H
    rw [zp_icmp_eq_t (x := x1) (y := 32) (t := 12) zd_28_3 rfl c1]
    exact zt_Tokens_isBlank_12  H
  · rw [if_neg c1] at H
    rw [zp_icmp_eq_f (x := x1) (y := 32) (t := 12) zd_28_3 rfl c1]
    rw [zs_iload_n (ls := [some (.int x1)]) zd_28_6 rfl]
    rw [zs_bipush (z := 10) zd_28_7 (by decide)]
    by_cases c2 : ¬ x1 = 10
    · rw [if_pos c2] at H
      rw [zp_icmp_ne_t (x := x1) (y := 10) (t := 16) zd_28_9 rfl c2]
      rw [zs_iconst (z := 0) zd_28_16 (by decide)]
      have H := Option.some.inj H
      subst H
      exact zs_ireturn zd_28_17 (by decide +kernel)
    · rw [if_neg c2] at H
      rw [zp_icmp_ne_f (x := x1) (y := 10) (t := 16) zd_28_9 rfl c2]
      exact zt_Tokens_isBlank_12  H
set_option maxRecDepth 20000 in
theorem zt_Tokens_takeToken_43 {a b L N : Nat} {σ : zS} {τ : zT} {o1 : Option Value} {o2 : Option Value} {r : Int32 × zS × zT} (H : zb_Tokens_takeToken_43 N σ τ = some r) : zx_go 2 26 43 [some (.ref 25), o1, o2] [] ((119, a, b), zx_pk (zK L) 119, σ, τ, zR) = some (some (.int r.1), ((119, a, b), zx_pk (zK L) 119, r.2.1, r.2.2, zR)) := by
  unfold zb_Tokens_takeToken_43 at H
  rw [zs_aload_n (ls := [some (.ref 25), o1, o2]) zd_26_43 rfl]
  rw [zs_aload_n (ls := [some (.ref 25), o1, o2]) zd_26_44 rfl]
  rw [zp_getI (n := 119) (K := zx_pk (zK L) 119) (σ := σ) (c := 9) (k := 8) (q := 25) (v := (σ 25 8)) zd_26_45 rfl rfl rfl (by decide) rfl]
  obtain ⟨r2, hr2, H⟩ := Option.bind_eq_some_iff.mp H
  rw [zp_callVi (x := r2) (st := [.int (σ 25 8), .ref 25]) (as := [.ref 25, .int (σ 25 8)]) (rest := []) (e := 0) zd_26_48 rfl (by decide +kernel) (by decide) rfl rfl (Nat.le_of_ble_eq_true rfl) (zx_rcb_ok rfl (show 25 < 119 by decide)) (Nat.le_of_ble_eq_true rfl) rfl (by decide) (zt_Tokens_byteAt hr2)]
  rw [zs_istore_n (x := r2) (ls' := [some (.ref 25), (zJ_cl o1), some (.int r2)]) zd_26_51 (Nat.le_of_ble_eq_true rfl) (zJ_s1 (k := 1) (o := o1) rfl)]
  rw [zs_aload_n (ls := [some (.ref 25), (zJ_cl o1), some (.int r2)]) zd_26_52 rfl]
  rw [zs_lconst (z := 0) zd_26_53 (by decide)]
  rw [zs_putL (n := 119) (K := zx_pk (zK L) 119) (c := 9) (k := 9) (q := 25) (x := 0) zd_26_54 rfl rfl (by decide +kernel) rfl (by decide)]
  rw [zs_iload_n (ls := [some (.ref 25), (zJ_cl o1), some (.int r2)]) zd_26_57 rfl]
  rw [zs_iconst (z := (-1)) zd_26_58 (by decide)]
  by_cases c3 : ¬ r2 = (-1)
  · rw [if_pos c3] at H
    rw [zp_icmp_ne_t (x := r2) (y := (-1)) (t := 72) zd_26_59 rfl c3]
    rw [zs_iload_n (ls := [some (.ref 25), (zJ_cl o1), some (.int r2)]) zd_26_72 rfl]
    obtain ⟨r4, hr4, H⟩ := Option.bind_eq_some_iff.mp H
    rw [zp_callSi (x := r4) (st := [.int r2]) (as := [.int r2]) (rest := []) (e := 0) zd_26_73 rfl (by decide +kernel) (by decide) rfl rfl (Nat.le_of_ble_eq_true rfl) rfl (Nat.le_of_ble_eq_true rfl) rfl (by decide) (zt_Tokens_isOfWord hr4)]
    by_cases c5 : r4 = 0
    · rw [if_pos c5] at H
      rw [zp_if_eq_t (x := r4) (t := 98) zd_26_76 rfl c5]
      rw [zs_aload_n (ls := [some (.ref 25), (zJ_cl o1), some (.int r2)]) zd_26_98 rfl]
      rw [zs_iload_n (ls := [some (.ref 25), (zJ_cl o1), some (.int r2)]) zd_26_99 rfl]
      obtain ⟨r6, hr6, H⟩ := Option.bind_eq_some_iff.mp H
      rw [zp_callVi (x := r6.1) (st := [.int r2, .ref 25]) (as := [.ref 25, .int r2]) (rest := []) (e := 1) zd_26_100 rfl (by decide +kernel) (by decide) rfl rfl (Nat.le_of_ble_eq_true rfl) (zx_rcb_ok rfl (show 25 < 119 by decide)) (Nat.le_of_ble_eq_true rfl) rfl (by decide) (zt_Tokens_takeSign hr6)]
      have H := Option.some.inj H
      subst H
      exact zs_ireturn zd_26_103 rfl
    · rw [if_neg c5] at H
      rw [zp_if_eq_f (x := r4) (t := 98) zd_26_76 rfl c5]
      rw [zs_iload_n (ls := [some (.ref 25), (zJ_cl o1), some (.int r2)]) zd_26_79 rfl]
      rw [zs_bipush (z := 57) zd_26_80 (by decide)]
      by_cases c7 : 57 < r2
      · rw [if_pos c7] at H
        rw [zp_icmp_gt_t (x := r2) (y := 57) (t := 93) zd_26_82 rfl c7]
        rw [zs_aload_n (ls := [some (.ref 25), (zJ_cl o1), some (.int r2)]) zd_26_93 rfl]
        obtain ⟨r8, hr8, H⟩ := Option.bind_eq_some_iff.mp H
        rw [zp_callVi (x := r8.1) (st := [.ref 25]) (as := [.ref 25]) (rest := []) (e := 1) zd_26_94 rfl (by decide +kernel) (by decide) rfl rfl (Nat.le_of_ble_eq_true rfl) (zx_rcb_ok rfl (show 25 < 119 by decide)) (Nat.le_of_ble_eq_true rfl) rfl (by decide) (zt_Tokens_takeWord hr8)]
        have H := Option.some.inj H
        subst H
        exact zs_ireturn zd_26_97 rfl
      · rw [if_neg c7] at H
        rw [zp_icmp_gt_f (x := r2) (y := 57) (t := 93) zd_26_82 rfl c7]
        rw [zs_aload_n (ls := [some (.ref 25), (zJ_cl o1), some (.int r2)]) zd_26_85 rfl]
        rw [zs_iload_n (ls := [some (.ref 25), (zJ_cl o1), some (.int r2)]) zd_26_86 rfl]
        obtain ⟨r9, hr9, H⟩ := Option.bind_eq_some_iff.mp H
        rw [zp_callVi (x := r9.1) (st := [.int r2, .ref 25]) (as := [.ref 25, .int r2]) (rest := []) (e := 1) zd_26_87 rfl (by decide +kernel) (by decide) rfl rfl (Nat.le_of_ble_eq_true rfl) (zx_rcb_ok rfl (show 25 < 119 by decide)) (Nat.le_of_ble_eq_true rfl) rfl (by decide) (zt_Tokens_takeNumber hr9)]
        rw [zs_goto (t := 97) zd_26_90 rfl]
        have H := Option.some.inj H
        subst H
        exact zs_ireturn zd_26_97 rfl
  · rw [if_neg c3] at H
    rw [zp_icmp_ne_f (x := r2) (y := (-1)) (t := 72) zd_26_59 rfl c3]
    rw [zs_aload_n (ls := [some (.ref 25), (zJ_cl o1), some (.int r2)]) zd_26_62 rfl]
    rw [zs_iconst (z := 0) zd_26_63 (by decide)]
    rw [zs_putI (n := 119) (K := zx_pk (zK L) 119) (c := 9) (k := 7) (q := 25) (x := 0) zd_26_64 rfl rfl (by decide +kernel) rfl (by decide)]
    rw [zs_aload_n (ls := [some (.ref 25), (zJ_cl o1), some (.int r2)]) zd_26_67 rfl]
    rw [zp_getI (n := 119) (K := zx_pk (zK L) 119) (σ := (zx_up σ 25 7 0)) (c := 9) (k := 8) (q := 25) (v := (σ 25 8)) zd_26_68 rfl rfl rfl (by decide) (show ((zx_up σ 25 7 0) : zS) 25 8 = (σ 25 8) from ((zx_up_nj (by decide)).trans rfl))]
    have H := Option.some.inj H
    subst H
    exact zs_ireturn zd_26_71 rfl
set_option maxRecDepth 20000 in
theorem zt_Tokens_takeToken_5 {a b L N : Nat} : ∀ {n : Nat} {σ : zS} {τ : zT} {o1 : Option Value} {o2 : Option Value} {r : Int32 × zS × zT}, zb_Tokens_takeToken_5 N n σ τ = some r → zx_go 2 26 5 [some (.ref 25), o1, o2] [] ((119, a, b), zx_pk (zK L) 119, σ, τ, zR) = some (some (.int r.1), ((119, a, b), zx_pk (zK L) 119, r.2.1, r.2.2, zR)) := by
  intro n
  induction n with
  | zero =>
    intro _ _ _ _ _ H
    cases H
  | succ n ih =>
    intro σ τ o1 o2 r H
    rw [zb_Tokens_takeToken_5] at H
    rw [zs_aload_n (ls := [some (.ref 25), o1, o2]) zd_26_5 rfl]
    rw [zp_getI (n := 119) (K := zx_pk (zK L) 119) (σ := σ) (c := 9) (k := 8) (q := 25) (v := (σ 25 8)) zd_26_6 rfl rfl rfl (by decide) rfl]
    rw [zs_aload_n (ls := [some (.ref 25), o1, o2]) zd_26_9 rfl]
    rw [zp_getI (n := 119) (K := zx_pk (zK L) 119) (σ := σ) (c := 9) (k := 4) (q := 25) (v := (σ 25 4)) zd_26_10 rfl rfl rfl (by decide) rfl]
    by_cases c1 : (σ 25 4) ≤ (σ 25 8)
    · rw [if_pos c1] at H
      rw [zp_icmp_ge_t (x := (σ 25 8)) (y := (σ 25 4)) (t := 43) zd_26_13 rfl c1]
      exact zt_Tokens_takeToken_43  H
    · rw [if_neg c1] at H
      rw [zp_icmp_ge_f (x := (σ 25 8)) (y := (σ 25 4)) (t := 43) zd_26_13 rfl c1]
      rw [zs_aload_n (ls := [some (.ref 25), o1, o2]) zd_26_16 rfl]
      rw [zs_aload_n (ls := [some (.ref 25), o1, o2]) zd_26_17 rfl]
      rw [zp_getI (n := 119) (K := zx_pk (zK L) 119) (σ := σ) (c := 9) (k := 8) (q := 25) (v := (σ 25 8)) zd_26_18 rfl rfl rfl (by decide) rfl]
      obtain ⟨r10, hr10, H⟩ := Option.bind_eq_some_iff.mp H
      rw [zp_callVi (x := r10) (st := [.int (σ 25 8), .ref 25]) (as := [.ref 25, .int (σ 25 8)]) (rest := []) (e := 0) zd_26_21 rfl (by decide +kernel) (by decide) rfl rfl (Nat.le_of_ble_eq_true rfl) (zx_rcb_ok rfl (show 25 < 119 by decide)) (Nat.le_of_ble_eq_true rfl) rfl (by decide) (zt_Tokens_byteAt hr10)]
      obtain ⟨r11, hr11, H⟩ := Option.bind_eq_some_iff.mp H
      rw [zp_callSi (x := r11) (st := [.int r10]) (as := [.int r10]) (rest := []) (e := 0) zd_26_24 rfl (by decide +kernel) (by decide) rfl rfl (Nat.le_of_ble_eq_true rfl) rfl (Nat.le_of_ble_eq_true rfl) rfl (by decide) (zt_Tokens_isBlank hr11)]
      by_cases c12 : r11 = 0
      · rw [if_pos c12] at H
        rw [zp_if_eq_t (x := r11) (t := 43) zd_26_27 rfl c12]
        exact zt_Tokens_takeToken_43  H
      · rw [if_neg c12] at H
        rw [zp_if_eq_f (x := r11) (t := 43) zd_26_27 rfl c12]
        rw [zs_aload_n (ls := [some (.ref 25), o1, o2]) zd_26_30 rfl]
        rw [zs_dup (a := .ref 25) zd_26_31 rfl]
        rw [zp_getI (n := 119) (K := zx_pk (zK L) 119) (σ := σ) (c := 9) (k := 8) (q := 25) (v := (σ 25 8)) zd_26_32 rfl rfl rfl (by decide) rfl]
        rw [zs_iconst (z := 1) zd_26_35 (by decide)]
        rw [zp_iadd (x := (σ 25 8)) (y := 1) (z := ((σ 25 8) + 1)) zd_26_36 rfl]
        rw [zs_putI (n := 119) (K := zx_pk (zK L) 119) (c := 9) (k := 8) (q := 25) (x := ((σ 25 8) + 1)) zd_26_37 rfl rfl (by decide +kernel) rfl (by decide)]
        rw [zs_goto (t := 5) zd_26_40 rfl]
        exact ih H
set_option maxRecDepth 20000 in
theorem zt_Tokens_takeToken {a b L N : Nat} {σ : zS} {τ : zT} {x1 : Int32} {r : Int32 × zS × zT} (H : zf_Tokens_takeToken N σ τ x1 = some r) : zx_go 2 26 0 [some (.ref 25), some (.int x1), none] [] ((119, a, b), zx_pk (zK L) 119, σ, τ, zR) = some (some (.int r.1), ((119, a, b), zx_pk (zK L) 119, r.2.1, r.2.2, zR)) := by
  unfold zf_Tokens_takeToken at H
  rw [zs_aload_n (ls := [some (.ref 25), some (.int x1), none]) zd_26_0 rfl]
  rw [zs_iload_n (ls := [some (.ref 25), some (.int x1), none]) zd_26_1 rfl]
  rw [zs_putI (n := 119) (K := zx_pk (zK L) 119) (c := 9) (k := 8) (q := 25) (x := x1) zd_26_2 rfl rfl (by decide +kernel) rfl (by decide)]
  exact zt_Tokens_takeToken_5  H
set_option maxRecDepth 20000 in
theorem zt_Tokens_scan_93 {a b L N : Nat} {σ : zS} {τ : zT} {o1 : Option Value} {o2 : Option Value} {o3 : Option Value} {r : zS × zT} (H : zb_Tokens_scan_93 N σ τ = some r) : zx_go 3 25 93 [some (.ref 25), o1, o2, o3] [] ((119, a, b), zx_pk (zK L) 119, σ, τ, zR) = some (none, ((119, a, b), zx_pk (zK L) 119, r.1, r.2, zR)) := by
  unfold zb_Tokens_scan_93 at H
  rw [zs_aload_n (ls := [some (.ref 25), o1, o2, o3]) zd_25_93 rfl]
  rw [zs_iconst (z := (-1)) zd_25_94 (by decide)]
  rw [zs_putI (n := 119) (K := zx_pk (zK L) 119) (c := 9) (k := 6) (q := 25) (x := (-1)) zd_25_95 rfl rfl (by decide +kernel) rfl (by decide)]
  rw [zs_aload_n (ls := [some (.ref 25), o1, o2, o3]) zd_25_98 rfl]
  obtain ⟨r2, hr2, H⟩ := Option.bind_eq_some_iff.mp H
  rw [zp_callVv (st := [.ref 25]) (as := [.ref 25]) (rest := []) (e := 0) zd_25_99 rfl (by decide +kernel) (by decide) rfl rfl (Nat.le_of_ble_eq_true rfl) (zx_rcb_ok rfl (show 25 < 119 by decide)) (Nat.le_of_ble_eq_true rfl) rfl (by decide) (zt_Tokens_advance hr2)]
  have H := Option.some.inj H
  subst H
  exact zs_return zd_25_102 (by decide +kernel)
set_option maxRecDepth 20000 in
theorem zt_Tokens_scan_19 {a b L N : Nat} : ∀ {n : Nat} {σ : zS} {τ : zT} {v2 : Int32} {v3 : Int32} {o1 : Option Value} {r : zS × zT}, zb_Tokens_scan_19 N n σ τ v2 v3 = some r → zx_go 3 25 19 [some (.ref 25), o1, some (.int v2), some (.int v3)] [] ((119, a, b), zx_pk (zK L) 119, σ, τ, zR) = some (none, ((119, a, b), zx_pk (zK L) 119, r.1, r.2, zR)) := by
  intro n
  induction n with
  | zero =>
    intro _ _ _ _ _ _ H
    cases H
  | succ n ih =>
    intro σ τ v2 v3 o1 r H
    rw [zb_Tokens_scan_19] at H
    rw [zs_iload_n (ls := [some (.ref 25), o1, some (.int v2), some (.int v3)]) zd_25_19 rfl]
    rw [zs_sipush (z := 1500) zd_25_20 (by decide)]
    by_cases c1 : 1500 < v3
    · rw [if_pos c1] at H
      rw [zp_icmp_gt_t (x := v3) (y := 1500) (t := 93) zd_25_23 rfl c1]
      exact zt_Tokens_scan_93  H
    · rw [if_neg c1] at H
      rw [zp_icmp_gt_f (x := v3) (y := 1500) (t := 93) zd_25_23 rfl c1]
      rw [zs_aload_n (ls := [some (.ref 25), o1, some (.int v2), some (.int v3)]) zd_25_26 rfl]
      rw [zp_getI (n := 119) (K := zx_pk (zK L) 119) (σ := σ) (c := 9) (k := 7) (q := 25) (v := (σ 25 7)) zd_25_27 rfl rfl rfl (by decide) rfl]
      by_cases c3 : (σ 25 7) = 0
      · rw [if_pos c3] at H
        rw [zp_if_eq_t (x := (σ 25 7)) (t := 93) zd_25_30 rfl c3]
        exact zt_Tokens_scan_93  H
      · rw [if_neg c3] at H
        rw [zp_if_eq_f (x := (σ 25 7)) (t := 93) zd_25_30 rfl c3]
        rw [zs_aload_n (ls := [some (.ref 25), o1, some (.int v2), some (.int v3)]) zd_25_33 rfl]
        rw [zp_getI (n := 119) (K := zx_pk (zK L) 119) (σ := σ) (c := 9) (k := 7) (q := 25) (v := (σ 25 7)) zd_25_34 rfl rfl rfl (by decide) rfl]
        rw [zs_iconst (z := 1) zd_25_37 (by decide)]
        by_cases c4 : (σ 25 7) = 1
        · rw [if_pos c4] at H
          rw [zp_icmp_eq_t (x := (σ 25 7)) (y := 1) (t := 93) zd_25_38 rfl c4]
          exact zt_Tokens_scan_93  H
        · rw [if_neg c4] at H
          rw [zp_icmp_eq_f (x := (σ 25 7)) (y := 1) (t := 93) zd_25_38 rfl c4]
          rw [zs_aload_n (ls := [some (.ref 25), o1, some (.int v2), some (.int v3)]) zd_25_41 rfl]
          rw [zs_iload_n (ls := [some (.ref 25), o1, some (.int v2), some (.int v3)]) zd_25_42 rfl]
          obtain ⟨r5, hr5, H⟩ := Option.bind_eq_some_iff.mp H
          rw [zp_callVi (x := r5.1) (st := [.int v2, .ref 25]) (as := [.ref 25, .int v2]) (rest := []) (e := 2) zd_25_43 rfl (by decide +kernel) (by decide) rfl rfl (Nat.le_of_ble_eq_true rfl) (zx_rcb_ok rfl (show 25 < 119 by decide)) (Nat.le_of_ble_eq_true rfl) rfl (by decide) (zt_Tokens_takeToken hr5)]
          rw [zs_istore_n (x := r5.1) (ls' := [some (.ref 25), (zJ_cl o1), some (.int r5.1), some (.int v3)]) zd_25_46 (Nat.le_of_ble_eq_true rfl) (zJ_s1 (k := 1) (o := o1) rfl)]
          rw [zs_aload_n (ls := [some (.ref 25), (zJ_cl o1), some (.int r5.1), some (.int v3)]) zd_25_47 rfl]
          rw [zs_getR (n := 119) (K := zx_pk (zK L) 119) (ρ := zR) (c := 9) (k := 1) (q := 25) (p := 26) zd_25_48 rfl rfl rfl (by decide) rfl]
          rw [zs_iload_n (ls := [some (.ref 25), (zJ_cl o1), some (.int r5.1), some (.int v3)]) zd_25_51 rfl]
          rw [zs_aload_n (ls := [some (.ref 25), (zJ_cl o1), some (.int r5.1), some (.int v3)]) zd_25_52 rfl]
          rw [zp_getI (n := 119) (K := zx_pk (zK L) 119) (σ := r5.2.1) (c := 9) (k := 7) (q := 25) (v := (r5.2.1 25 7)) zd_25_53 rfl rfl rfl (by decide) rfl]
          by_cases c6 : 0 ≤ v3 ∧ v3 < 1501
          · rw [if_pos c6] at H
            rw [zp_iastore (n := 119) (K := zx_pk (zK L) 119) (q := 26) (m := 1501) (i := v3) (k := v3.toNatClampNeg) (x := (r5.2.1 25 7)) (z := (r5.2.1 25 7)) zd_25_56 rfl ⟨by decide, by decide⟩ (zJ_in c6 rfl) rfl rfl]
            rw [zs_aload_n (ls := [some (.ref 25), (zJ_cl o1), some (.int r5.1), some (.int v3)]) zd_25_57 rfl]
            rw [zs_getR (n := 119) (K := zx_pk (zK L) 119) (ρ := zR) (c := 9) (k := 2) (q := 25) (p := 27) zd_25_58 rfl rfl rfl (by decide) rfl]
            rw [zs_iload_n (ls := [some (.ref 25), (zJ_cl o1), some (.int r5.1), some (.int v3)]) zd_25_61 rfl]
            rw [zs_aload_n (ls := [some (.ref 25), (zJ_cl o1), some (.int r5.1), some (.int v3)]) zd_25_62 rfl]
            rw [zp_getI (n := 119) (K := zx_pk (zK L) 119) (σ := (zx_up r5.2.1 26 v3.toNatClampNeg (r5.2.1 25 7))) (c := 9) (k := 8) (q := 25) (v := (r5.2.1 25 8)) zd_25_63 rfl rfl rfl (by decide) (show ((zx_up r5.2.1 26 v3.toNatClampNeg (r5.2.1 25 7)) : zS) 25 8 = (r5.2.1 25 8) from ((zx_up_ne (by decide)).trans rfl))]
            by_cases c7 : 0 ≤ v3 ∧ v3 < 1501
            · rw [if_pos c7] at H
              rw [zp_iastore (n := 119) (K := zx_pk (zK L) 119) (q := 27) (m := 1501) (i := v3) (k := v3.toNatClampNeg) (x := (r5.2.1 25 8)) (z := (r5.2.1 25 8)) zd_25_66 rfl ⟨by decide, by decide⟩ (zJ_in c7 rfl) rfl rfl]
              rw [zs_aload_n (ls := [some (.ref 25), (zJ_cl o1), some (.int r5.1), some (.int v3)]) zd_25_67 rfl]
              rw [zs_getR (n := 119) (K := zx_pk (zK L) 119) (ρ := zR) (c := 9) (k := 3) (q := 25) (p := 28) zd_25_68 rfl rfl rfl (by decide) rfl]
              rw [zs_iload_n (ls := [some (.ref 25), (zJ_cl o1), some (.int r5.1), some (.int v3)]) zd_25_71 rfl]
              rw [zs_aload_n (ls := [some (.ref 25), (zJ_cl o1), some (.int r5.1), some (.int v3)]) zd_25_72 rfl]
              rw [zp_getL (n := 119) (K := zx_pk (zK L) 119) (τ := r5.2.2) (c := 9) (k := 9) (q := 25) (v := (r5.2.2 25 9)) zd_25_73 rfl rfl rfl (by decide) rfl]
              by_cases c8 : 0 ≤ v3 ∧ v3 < 1501
              · rw [if_pos c8] at H
                rw [zp_lastore (n := 119) (K := zx_pk (zK L) 119) (q := 28) (m := 1501) (i := v3) (k := v3.toNatClampNeg) (x := (r5.2.2 25 9)) (z := (r5.2.2 25 9)) zd_25_76 rfl ⟨by decide, by decide⟩ (zJ_in c8 rfl) rfl rfl]
                rw [zs_aload_n (ls := [some (.ref 25), (zJ_cl o1), some (.int r5.1), some (.int v3)]) zd_25_77 rfl]
                rw [zs_dup (a := .ref 25) zd_25_78 rfl]
                rw [zp_getI (n := 119) (K := zx_pk (zK L) 119) (σ := (zx_up (zx_up r5.2.1 26 v3.toNatClampNeg (r5.2.1 25 7)) 27 v3.toNatClampNeg (r5.2.1 25 8))) (c := 9) (k := 5) (q := 25) (v := (r5.2.1 25 5)) zd_25_79 rfl rfl rfl (by decide) (show ((zx_up (zx_up r5.2.1 26 v3.toNatClampNeg (r5.2.1 25 7)) 27 v3.toNatClampNeg (r5.2.1 25 8)) : zS) 25 5 = (r5.2.1 25 5) from ((zx_up_ne (by decide)).trans ((zx_up_ne (by decide)).trans rfl)))]
                rw [zs_iconst (z := 1) zd_25_82 (by decide)]
                rw [zp_iadd (x := (r5.2.1 25 5)) (y := 1) (z := ((r5.2.1 25 5) + 1)) zd_25_83 rfl]
                rw [zs_putI (n := 119) (K := zx_pk (zK L) 119) (c := 9) (k := 5) (q := 25) (x := ((r5.2.1 25 5) + 1)) zd_25_84 rfl rfl (by decide +kernel) rfl (by decide)]
                rw [zs_iinc (ls := [some (.ref 25), (zJ_cl o1), some (.int r5.1), some (.int v3)]) (x := v3) (z := (v3 + 1)) (ls' := [some (.ref 25), (zJ_cl o1), some (.int r5.1), some (.int (v3 + 1))]) zd_25_87 rfl rfl rfl]
                rw [zs_goto (t := 19) zd_25_90 rfl]
                exact ih H
              · rw [if_neg c8] at H
                cases H
            · rw [if_neg c7] at H
              cases H
          · rw [if_neg c6] at H
            cases H
set_option maxRecDepth 20000 in
theorem zt_Tokens_scan {a b L N : Nat} {σ : zS} {τ : zT} {x1 : Int32} {r : zS × zT} (H : zf_Tokens_scan N σ τ x1 = some r) : zx_go 3 25 0 [some (.ref 25), some (.int x1), none, none] [] ((119, a, b), zx_pk (zK L) 119, σ, τ, zR) = some (none, ((119, a, b), zx_pk (zK L) 119, r.1, r.2, zR)) := by
  unfold zf_Tokens_scan at H
  rw [zs_aload_n (ls := [some (.ref 25), some (.int x1), none, none]) zd_25_0 rfl]
  rw [zs_iload_n (ls := [some (.ref 25), some (.int x1), none, none]) zd_25_1 rfl]
  rw [zs_putI (n := 119) (K := zx_pk (zK L) 119) (c := 9) (k := 4) (q := 25) (x := x1) zd_25_2 rfl rfl (by decide +kernel) rfl (by decide)]
  rw [zs_aload_n (ls := [some (.ref 25), some (.int x1), none, none]) zd_25_5 rfl]
  rw [zs_iconst (z := 0) zd_25_6 (by decide)]
  rw [zs_putI (n := 119) (K := zx_pk (zK L) 119) (c := 9) (k := 5) (q := 25) (x := 0) zd_25_7 rfl rfl (by decide +kernel) rfl (by decide)]
  rw [zs_iconst (z := 0) zd_25_10 (by decide)]
  rw [zs_istore_n (x := 0) (ls' := [some (.ref 25), some (.int x1), some (.int 0), none]) zd_25_11 (Nat.le_of_ble_eq_true rfl) rfl]
  rw [zs_aload_n (ls := [some (.ref 25), some (.int x1), some (.int 0), none]) zd_25_12 rfl]
  rw [zs_iconst (z := 3) zd_25_13 (by decide)]
  rw [zs_putI (n := 119) (K := zx_pk (zK L) 119) (c := 9) (k := 7) (q := 25) (x := 3) zd_25_14 rfl rfl (by decide +kernel) rfl (by decide)]
  rw [zs_iconst (z := 0) zd_25_17 (by decide)]
  rw [zs_istore_n (x := 0) (ls' := [some (.ref 25), some (.int x1), some (.int 0), some (.int 0)]) zd_25_18 (Nat.le_of_ble_eq_true rfl) rfl]
  exact zt_Tokens_scan_19  H
set_option maxRecDepth 20000 in
theorem zt_Program_slotOf_34 {a b L : Nat} {σ : zS} {τ : zT} {v1 : Int32} {v2 : Int32} {s0 : Int32} {o0 : Option Value} {o3 : Option Value} {r : Int32} (H : zb_Program_slotOf_34 σ v1 v2 s0 = some r) : zx_go 0 47 34 [o0, some (.int v1), some (.int v2), o3] [.int s0] ((119, a, b), zx_pk (zK L) 119, σ, τ, zR) = some (some (.int r), ((119, a, b), zx_pk (zK L) 119, σ, τ, zR)) := by
  unfold zb_Program_slotOf_34 at H
  rw [zs_istore_n (x := s0) (ls' := [o0, some (.int v1), some (.int v2), some (.int s0)]) zd_47_34 (Nat.le_of_ble_eq_true rfl) rfl]
  rw [zs_iload_n (ls := [o0, some (.int v1), some (.int v2), some (.int s0)]) zd_47_35 rfl]
  by_cases c2 : s0 = 0
  · rw [if_pos c2] at H
    rw [zp_if_eq_t (x := s0) (t := 48) zd_47_36 rfl c2]
    rw [zs_bipush (z := 96) zd_47_48 (by decide)]
    have H := Option.some.inj H
    subst H
    exact zs_ireturn zd_47_50 (by decide +kernel)
  · rw [if_neg c2] at H
    rw [zp_if_eq_f (x := s0) (t := 48) zd_47_36 rfl c2]
    rw [zs_iload_n (ls := [o0, some (.int v1), some (.int v2), some (.int s0)]) zd_47_39 rfl]
    rw [zs_bipush (z := 24) zd_47_40 (by decide)]
    rw [zp_imul (x := v1) (y := 24) (z := (v1 * 24)) zd_47_42 rfl]
    rw [zs_iload_n (ls := [o0, some (.int v1), some (.int v2), some (.int s0)]) zd_47_43 rfl]
    rw [zp_iadd (x := (v1 * 24)) (y := v2) (z := ((v1 * 24) + v2)) zd_47_44 rfl]
    rw [zs_goto (t := 50) zd_47_45 rfl]
    have H := Option.some.inj H
    subst H
    exact zs_ireturn zd_47_50 rfl
set_option maxRecDepth 20000 in
theorem zt_Program_slotOf_33 {a b L : Nat} {σ : zS} {τ : zT} {v1 : Int32} {v2 : Int32} {o0 : Option Value} {o3 : Option Value} {r : Int32} (H : zb_Program_slotOf_33 σ v1 v2 = some r) : zx_go 0 47 33 [o0, some (.int v1), some (.int v2), o3] [] ((119, a, b), zx_pk (zK L) 119, σ, τ, zR) = some (some (.int r), ((119, a, b), zx_pk (zK L) 119, σ, τ, zR)) := by
  unfold zb_Program_slotOf_33 at H
  rw [zs_iconst (z := 0) zd_47_33 (by decide)]
  exact zt_Program_slotOf_34  H
set_option maxRecDepth 20000 in
theorem zt_Program_slotOf {a b L : Nat} {σ : zS} {τ : zT} {x1 : Int32} {x2 : Int32} {r : Int32} (H : zf_Program_slotOf σ x1 x2 = some r) : zx_go 0 47 0 [some (.ref 4), some (.int x1), some (.int x2), none] [] ((119, a, b), zx_pk (zK L) 119, σ, τ, zR) = some (some (.int r), ((119, a, b), zx_pk (zK L) 119, σ, τ, zR)) := by
  unfold zf_Program_slotOf at H
  rw [zs_iload_n (ls := [some (.ref 4), some (.int x1), some (.int x2), none]) zd_47_0 rfl]
  by_cases c1 : x1 < 0
  · rw [if_pos c1] at H
    rw [zp_if_lt_t (x := x1) (t := 33) zd_47_1 rfl c1]
    exact zt_Program_slotOf_33  H
  · rw [if_neg c1] at H
    rw [zp_if_lt_f (x := x1) (t := 33) zd_47_1 rfl c1]
    rw [zs_iload_n (ls := [some (.ref 4), some (.int x1), some (.int x2), none]) zd_47_4 rfl]
    rw [zs_iconst (z := 4) zd_47_5 (by decide)]
    by_cases c3 : 4 ≤ x1
    · rw [if_pos c3] at H
      rw [zp_icmp_ge_t (x := x1) (y := 4) (t := 33) zd_47_6 rfl c3]
      exact zt_Program_slotOf_33  H
    · rw [if_neg c3] at H
      rw [zp_icmp_ge_f (x := x1) (y := 4) (t := 33) zd_47_6 rfl c3]
      rw [zs_iload_n (ls := [some (.ref 4), some (.int x1), some (.int x2), none]) zd_47_9 rfl]
      by_cases c4 : x2 < 0
      · rw [if_pos c4] at H
        rw [zp_if_lt_t (x := x2) (t := 33) zd_47_10 rfl c4]
        exact zt_Program_slotOf_33  H
      · rw [if_neg c4] at H
        rw [zp_if_lt_f (x := x2) (t := 33) zd_47_10 rfl c4]
        rw [zs_iload_n (ls := [some (.ref 4), some (.int x1), some (.int x2), none]) zd_47_13 rfl]
        rw [zs_bipush (z := 24) zd_47_14 (by decide)]
        by_cases c5 : 24 ≤ x2
        · rw [if_pos c5] at H
          rw [zp_icmp_ge_t (x := x2) (y := 24) (t := 33) zd_47_16 rfl c5]
          exact zt_Program_slotOf_33  H
        · rw [if_neg c5] at H
          rw [zp_icmp_ge_f (x := x2) (y := 24) (t := 33) zd_47_16 rfl c5]
          rw [zs_iload_n (ls := [some (.ref 4), some (.int x1), some (.int x2), none]) zd_47_19 rfl]
          rw [zs_aload_n (ls := [some (.ref 4), some (.int x1), some (.int x2), none]) zd_47_20 rfl]
          rw [zs_getR (n := 119) (K := zx_pk (zK L) 119) (ρ := zR) (c := 6) (k := 7) (q := 4) (p := 5) zd_47_21 rfl rfl rfl (by decide) rfl]
          rw [zs_iload_n (ls := [some (.ref 4), some (.int x1), some (.int x2), none]) zd_47_24 rfl]
          by_cases c6 : 0 ≤ x1 ∧ x1 < 4
          · rw [if_pos c6] at H
            rw [zp_iaload (n := 119) (K := zx_pk (zK L) 119) (σ := σ) (q := 5) (m := 4) (i := x1) (k := x1.toNatClampNeg) (v := (σ 5 x1.toNatClampNeg)) zd_47_25 rfl (by decide) (zJ_in c6 rfl) rfl rfl]
            by_cases c7 : (σ 5 x1.toNatClampNeg) ≤ x2
            · rw [if_pos c7] at H
              rw [zp_icmp_ge_t (x := x2) (y := (σ 5 x1.toNatClampNeg)) (t := 33) zd_47_26 rfl c7]
              exact zt_Program_slotOf_33  H
            · rw [if_neg c7] at H
              rw [zp_icmp_ge_f (x := x2) (y := (σ 5 x1.toNatClampNeg)) (t := 33) zd_47_26 rfl c7]
              rw [zs_iconst (z := 1) zd_47_29 (by decide)]
              rw [zs_goto (t := 34) zd_47_30 rfl]
              exact zt_Program_slotOf_34  H
          · rw [if_neg c6] at H
            cases H
set_option maxRecDepth 20000 in
theorem zt_Names_numberOf_50 {a b L N : Nat} {k3 : zS → zT → Int64 → Int32 → Int32 → Option (Int32)} (hk3 : ∀ {σ : zS} {τ : zT} {v1 : Int64} {v3 : Int32} {v4 : Int32} {o2 : Option Value} {r : Int32}, k3 σ τ v1 v3 v4 = some r → zx_go 0 52 3 [some (.ref 18), some (.long v1), o2, some (.int v3), some (.int v4)] [] ((119, a, b), zx_pk (zK L) 119, σ, τ, zR) = some (some (.int r), ((119, a, b), zx_pk (zK L) 119, σ, τ, zR))) {σ : zS} {τ : zT} {v1 : Int64} {v3 : Int32} {v4 : Int32} {o2 : Option Value} {r : Int32} (H : zb_Names_numberOf_50 k3 N σ τ v1 v3 v4 = some r) : zx_go 0 52 50 [some (.ref 18), some (.long v1), o2, some (.int v3), some (.int v4)] [] ((119, a, b), zx_pk (zK L) 119, σ, τ, zR) = some (some (.int r), ((119, a, b), zx_pk (zK L) 119, σ, τ, zR)) := by
  unfold zb_Names_numberOf_50 at H
  rw [zs_iinc (ls := [some (.ref 18), some (.long v1), o2, some (.int v3), some (.int v4)]) (x := v4) (z := (v4 + 1)) (ls' := [some (.ref 18), some (.long v1), o2, some (.int v3), some (.int (v4 + 1))]) zd_52_50 rfl rfl rfl]
  rw [zs_goto (t := 3) zd_52_53 rfl]
  exact hk3 H
set_option maxRecDepth 20000 in
theorem zt_Names_numberOf_3 {a b L N : Nat} : ∀ {n : Nat} {σ : zS} {τ : zT} {v1 : Int64} {v3 : Int32} {v4 : Int32} {o2 : Option Value} {r : Int32}, zb_Names_numberOf_3 N n σ τ v1 v3 v4 = some r → zx_go 0 52 3 [some (.ref 18), some (.long v1), o2, some (.int v3), some (.int v4)] [] ((119, a, b), zx_pk (zK L) 119, σ, τ, zR) = some (some (.int r), ((119, a, b), zx_pk (zK L) 119, σ, τ, zR)) := by
  intro n
  induction n with
  | zero =>
    intro _ _ _ _ _ _ _ H
    cases H
  | succ n ih =>
    intro σ τ v1 v3 v4 o2 r H
    rw [zb_Names_numberOf_3] at H
    rw [zs_iload (ls := [some (.ref 18), some (.long v1), o2, some (.int v3), some (.int v4)]) zd_52_3 rfl]
    rw [zs_aload_n (ls := [some (.ref 18), some (.long v1), o2, some (.int v3), some (.int v4)]) zd_52_5 rfl]
    rw [zp_getI (n := 119) (K := zx_pk (zK L) 119) (σ := σ) (c := 3) (k := 3) (q := 18) (v := (σ 18 3)) zd_52_6 rfl rfl rfl (by decide) rfl]
    by_cases c1 : (σ 18 3) ≤ v4
    · rw [if_pos c1] at H
      rw [zp_icmp_ge_t (x := v4) (y := (σ 18 3)) (t := 56) zd_52_9 rfl c1]
      rw [zs_iconst (z := (-1)) zd_52_56 (by decide)]
      have H := Option.some.inj H
      subst H
      exact zs_ireturn zd_52_57 (by decide +kernel)
    · rw [if_neg c1] at H
      rw [zp_icmp_ge_f (x := v4) (y := (σ 18 3)) (t := 56) zd_52_9 rfl c1]
      rw [zs_iload (ls := [some (.ref 18), some (.long v1), o2, some (.int v3), some (.int v4)]) zd_52_12 rfl]
      rw [zs_bipush (z := 14) zd_52_14 (by decide)]
      by_cases c2 : 14 ≤ v4
      · rw [if_pos c2] at H
        rw [zp_icmp_ge_t (x := v4) (y := 14) (t := 56) zd_52_16 rfl c2]
        rw [zs_iconst (z := (-1)) zd_52_56 (by decide)]
        have H := Option.some.inj H
        subst H
        exact zs_ireturn zd_52_57 (by decide +kernel)
      · rw [if_neg c2] at H
        rw [zp_icmp_ge_f (x := v4) (y := 14) (t := 56) zd_52_16 rfl c2]
        rw [zs_aload_n (ls := [some (.ref 18), some (.long v1), o2, some (.int v3), some (.int v4)]) zd_52_19 rfl]
        rw [zs_getR (n := 119) (K := zx_pk (zK L) 119) (ρ := zR) (c := 3) (k := 0) (q := 18) (p := 19) zd_52_20 rfl rfl rfl (by decide) rfl]
        rw [zs_iload (ls := [some (.ref 18), some (.long v1), o2, some (.int v3), some (.int v4)]) zd_52_23 rfl]
        by_cases c3 : 0 ≤ v4 ∧ v4 < 14
        · rw [if_pos c3] at H
          rw [zp_laload (n := 119) (K := zx_pk (zK L) 119) (τ := τ) (q := 19) (m := 14) (i := v4) (k := v4.toNatClampNeg) (v := (τ 19 v4.toNatClampNeg)) zd_52_25 rfl (by decide) (zJ_in c3 rfl) rfl rfl]
          rw [zs_lload_n (ls := [some (.ref 18), some (.long v1), o2, some (.int v3), some (.int v4)]) zd_52_26 rfl]
          rw [zp_lcmp (x := (τ 19 v4.toNatClampNeg)) (y := v1) (z := (lg_cmp (τ 19 v4.toNatClampNeg) v1)) zd_52_27 rfl]
          by_cases c4 : ¬ (τ 19 v4.toNatClampNeg) = v1
          · rw [if_pos c4] at H
            rw [zp_if_ne_t (x := (lg_cmp (τ 19 v4.toNatClampNeg) v1)) (t := 50) zd_52_28 rfl (fun q => c4 (zJ_lc.mpr q))]
            exact zt_Names_numberOf_50 (hk3 := ih) H
          · rw [if_neg c4] at H
            rw [zp_if_ne_f (x := (lg_cmp (τ 19 v4.toNatClampNeg) v1)) (t := 50) zd_52_28 rfl (fun q => c4 (fun q2 => q (zJ_lc.mp q2)))]
            rw [zs_aload_n (ls := [some (.ref 18), some (.long v1), o2, some (.int v3), some (.int v4)]) zd_52_31 rfl]
            rw [zs_getR (n := 119) (K := zx_pk (zK L) 119) (ρ := zR) (c := 3) (k := 1) (q := 18) (p := 20) zd_52_32 rfl rfl rfl (by decide) rfl]
            rw [zs_iload (ls := [some (.ref 18), some (.long v1), o2, some (.int v3), some (.int v4)]) zd_52_35 rfl]
            by_cases c5 : 0 ≤ v4 ∧ v4 < 14
            · rw [if_pos c5] at H
              rw [zp_iaload (n := 119) (K := zx_pk (zK L) 119) (σ := σ) (q := 20) (m := 14) (i := v4) (k := v4.toNatClampNeg) (v := (σ 20 v4.toNatClampNeg)) zd_52_37 rfl (by decide) (zJ_in c5 rfl) rfl rfl]
              rw [zs_iload_n (ls := [some (.ref 18), some (.long v1), o2, some (.int v3), some (.int v4)]) zd_52_38 rfl]
              by_cases c6 : ¬ (σ 20 v4.toNatClampNeg) = v3
              · rw [if_pos c6] at H
                rw [zp_icmp_ne_t (x := (σ 20 v4.toNatClampNeg)) (y := v3) (t := 50) zd_52_39 rfl c6]
                exact zt_Names_numberOf_50 (hk3 := ih) H
              · rw [if_neg c6] at H
                rw [zp_icmp_ne_f (x := (σ 20 v4.toNatClampNeg)) (y := v3) (t := 50) zd_52_39 rfl c6]
                rw [zs_aload_n (ls := [some (.ref 18), some (.long v1), o2, some (.int v3), some (.int v4)]) zd_52_42 rfl]
                rw [zs_getR (n := 119) (K := zx_pk (zK L) 119) (ρ := zR) (c := 3) (k := 2) (q := 18) (p := 21) zd_52_43 rfl rfl rfl (by decide) rfl]
                rw [zs_iload (ls := [some (.ref 18), some (.long v1), o2, some (.int v3), some (.int v4)]) zd_52_46 rfl]
                by_cases c7 : 0 ≤ v4 ∧ v4 < 14
                · rw [if_pos c7] at H
                  rw [zp_iaload (n := 119) (K := zx_pk (zK L) 119) (σ := σ) (q := 21) (m := 14) (i := v4) (k := v4.toNatClampNeg) (v := (σ 21 v4.toNatClampNeg)) zd_52_48 rfl (by decide) (zJ_in c7 rfl) rfl rfl]
                  have H := Option.some.inj H
                  subst H
                  exact zs_ireturn zd_52_49 rfl
                · rw [if_neg c7] at H
                  cases H
            · rw [if_neg c5] at H
              cases H
        · rw [if_neg c3] at H
          cases H
set_option maxRecDepth 20000 in
theorem zt_Names_numberOf {a b L N : Nat} {σ : zS} {τ : zT} {x1 : Int64} {x2 : Int32} {r : Int32} (H : zf_Names_numberOf N σ τ x1 x2 = some r) : zx_go 0 52 0 [some (.ref 18), some (.long x1), none, some (.int x2), none] [] ((119, a, b), zx_pk (zK L) 119, σ, τ, zR) = some (some (.int r), ((119, a, b), zx_pk (zK L) 119, σ, τ, zR)) := by
  unfold zf_Names_numberOf at H
  rw [zs_iconst (z := 0) zd_52_0 (by decide)]
  rw [zs_istore (x := 0) (ls' := [some (.ref 18), some (.long x1), none, some (.int x2), some (.int 0)]) zd_52_1 (Nat.le_of_ble_eq_true rfl) rfl]
  exact zt_Names_numberOf_3  H
set_option maxRecDepth 20000 in
theorem zt_Program_setThread {a b L : Nat} {σ : zS} {τ : zT} {x1 : Int32} {x2 : Int32} {r : zS} (H : zf_Program_setThread σ x1 x2 = some r) : zx_go 0 83 0 [some (.ref 4), some (.int x1), some (.int x2)] [] ((119, a, b), zx_pk (zK L) 119, σ, τ, zR) = some (none, ((119, a, b), zx_pk (zK L) 119, r, τ, zR)) := by
  unfold zf_Program_setThread at H
  rw [zs_iload_n (ls := [some (.ref 4), some (.int x1), some (.int x2)]) zd_83_0 rfl]
  by_cases c1 : x1 < 0
  · rw [if_pos c1] at H
    rw [zp_if_lt_t (x := x1) (t := 52) zd_83_1 rfl c1]
    have H := Option.some.inj H
    subst H
    exact zs_return zd_83_52 (by decide +kernel)
  · rw [if_neg c1] at H
    rw [zp_if_lt_f (x := x1) (t := 52) zd_83_1 rfl c1]
    rw [zs_iload_n (ls := [some (.ref 4), some (.int x1), some (.int x2)]) zd_83_4 rfl]
    rw [zs_bipush (z := 96) zd_83_5 (by decide)]
    by_cases c2 : 96 ≤ x1
    · rw [if_pos c2] at H
      rw [zp_icmp_ge_t (x := x1) (y := 96) (t := 52) zd_83_7 rfl c2]
      have H := Option.some.inj H
      subst H
      exact zs_return zd_83_52 (by decide +kernel)
    · rw [if_neg c2] at H
      rw [zp_icmp_ge_f (x := x1) (y := 96) (t := 52) zd_83_7 rfl c2]
      rw [zs_iload_n (ls := [some (.ref 4), some (.int x1), some (.int x2)]) zd_83_10 rfl]
      by_cases c3 : x2 < 0
      · rw [if_pos c3] at H
        rw [zp_if_lt_t (x := x2) (t := 52) zd_83_11 rfl c3]
        have H := Option.some.inj H
        subst H
        exact zs_return zd_83_52 (by decide +kernel)
      · rw [if_neg c3] at H
        rw [zp_if_lt_f (x := x2) (t := 52) zd_83_11 rfl c3]
        rw [zs_iload_n (ls := [some (.ref 4), some (.int x1), some (.int x2)]) zd_83_14 rfl]
        rw [zs_iconst (z := 4) zd_83_15 (by decide)]
        by_cases c4 : 4 ≤ x2
        · rw [if_pos c4] at H
          rw [zp_icmp_ge_t (x := x2) (y := 4) (t := 52) zd_83_16 rfl c4]
          have H := Option.some.inj H
          subst H
          exact zs_return zd_83_52 (by decide +kernel)
        · rw [if_neg c4] at H
          rw [zp_icmp_ge_f (x := x2) (y := 4) (t := 52) zd_83_16 rfl c4]
          rw [zs_aload_n (ls := [some (.ref 4), some (.int x1), some (.int x2)]) zd_83_19 rfl]
          rw [zs_getR (n := 119) (K := zx_pk (zK L) 119) (ρ := zR) (c := 6) (k := 10) (q := 4) (p := 8) zd_83_20 rfl rfl rfl (by decide) rfl]
          rw [zs_iload_n (ls := [some (.ref 4), some (.int x1), some (.int x2)]) zd_83_23 rfl]
          rw [zs_iload_n (ls := [some (.ref 4), some (.int x1), some (.int x2)]) zd_83_24 rfl]
          by_cases c5 : 0 ≤ x1 ∧ x1 < 97
          · rw [if_pos c5] at H
            rw [zp_iastore (n := 119) (K := zx_pk (zK L) 119) (q := 8) (m := 97) (i := x1) (k := x1.toNatClampNeg) (x := x2) (z := x2) zd_83_25 rfl ⟨by decide, by decide⟩ (zJ_in c5 rfl) rfl rfl]
            rw [zs_aload_n (ls := [some (.ref 4), some (.int x1), some (.int x2)]) zd_83_26 rfl]
            rw [zs_getR (n := 119) (K := zx_pk (zK L) 119) (ρ := zR) (c := 6) (k := 9) (q := 4) (p := 7) zd_83_27 rfl rfl rfl (by decide) rfl]
            rw [zs_iload_n (ls := [some (.ref 4), some (.int x1), some (.int x2)]) zd_83_30 rfl]
            by_cases c6 : 0 ≤ x1 ∧ x1 < 97
            · rw [if_pos c6] at H
              rw [zp_iaload (n := 119) (K := zx_pk (zK L) 119) (σ := (zx_up σ 8 x1.toNatClampNeg x2)) (q := 7) (m := 97) (i := x1) (k := x1.toNatClampNeg) (v := (σ 7 x1.toNatClampNeg)) zd_83_31 rfl (by decide) (zJ_in c6 rfl) rfl (show ((zx_up σ 8 x1.toNatClampNeg x2) : zS) 7 x1.toNatClampNeg = (σ 7 x1.toNatClampNeg) from ((zx_up_ne (by decide)).trans rfl))]
              rw [zs_bipush (z := 10) zd_83_32 (by decide)]
              by_cases c7 : ¬ (σ 7 x1.toNatClampNeg) = 10
              · rw [if_pos c7] at H
                rw [zp_icmp_ne_t (x := (σ 7 x1.toNatClampNeg)) (y := 10) (t := 52) zd_83_34 rfl c7]
                have H := Option.some.inj H
                subst H
                exact zs_return zd_83_52 (by decide +kernel)
              · rw [if_neg c7] at H
                rw [zp_icmp_ne_f (x := (σ 7 x1.toNatClampNeg)) (y := 10) (t := 52) zd_83_34 rfl c7]
                rw [zs_aload_n (ls := [some (.ref 4), some (.int x1), some (.int x2)]) zd_83_37 rfl]
                rw [zs_getR (n := 119) (K := zx_pk (zK L) 119) (ρ := zR) (c := 6) (k := 8) (q := 4) (p := 6) zd_83_38 rfl rfl rfl (by decide) rfl]
                rw [zs_iload_n (ls := [some (.ref 4), some (.int x1), some (.int x2)]) zd_83_41 rfl]
                rw [zs_dup2 (a := .int x2) (b := .ref 6) zd_83_42 ⟨rfl, rfl⟩]
                by_cases c8 : 0 ≤ x2 ∧ x2 < 4
                · rw [if_pos c8] at H
                  rw [zp_iaload (n := 119) (K := zx_pk (zK L) 119) (σ := (zx_up σ 8 x1.toNatClampNeg x2)) (q := 6) (m := 4) (i := x2) (k := x2.toNatClampNeg) (v := (σ 6 x2.toNatClampNeg)) zd_83_43 rfl (by decide) (zJ_in c8 rfl) rfl (show ((zx_up σ 8 x1.toNatClampNeg x2) : zS) 6 x2.toNatClampNeg = (σ 6 x2.toNatClampNeg) from ((zx_up_ne (by decide)).trans rfl))]
                  rw [zs_iconst (z := 1) zd_83_44 (by decide)]
                  rw [zs_iload_n (ls := [some (.ref 4), some (.int x1), some (.int x2)]) zd_83_45 rfl]
                  rw [zs_bipush (z := 24) zd_83_46 (by decide)]
                  rw [zp_idiv (x := x1) (y := 24) (z := (x1 / 24)) zd_83_48 (by decide) rfl]
                  rw [zp_ishl (x := 1) (y := (x1 / 24)) (z := (zJ_shl 1 (x1 / 24))) zd_83_49 rfl]
                  rw [zp_ior (x := (σ 6 x2.toNatClampNeg)) (y := (zJ_shl 1 (x1 / 24))) (z := ((σ 6 x2.toNatClampNeg) ||| (zJ_shl 1 (x1 / 24)))) zd_83_50 rfl]
                  by_cases c9 : 0 ≤ x2 ∧ x2 < 4
                  · rw [if_pos c9] at H
                    rw [zp_iastore (n := 119) (K := zx_pk (zK L) 119) (q := 6) (m := 4) (i := x2) (k := x2.toNatClampNeg) (x := ((σ 6 x2.toNatClampNeg) ||| (zJ_shl 1 (x1 / 24)))) (z := ((σ 6 x2.toNatClampNeg) ||| (zJ_shl 1 (x1 / 24)))) zd_83_51 rfl ⟨by decide, by decide⟩ (zJ_in c9 rfl) rfl rfl]
                    have H := Option.some.inj H
                    subst H
                    exact zs_return zd_83_52 (by decide +kernel)
                  · rw [if_neg c9] at H
                    cases H
                · rw [if_neg c8] at H
                  cases H
            · rw [if_neg c6] at H
              cases H
          · rw [if_neg c5] at H
            cases H
set_option maxRecDepth 20000 in
theorem zt_Reader_findThread_45 {a b L N : Nat} {σ : zS} {τ : zT} {v2 : Int32} {o1 : Option Value} {o3 : Option Value} {o4 : Option Value} {r : zS} (H : zb_Reader_findThread_45 N σ τ v2 = some r) : zx_go 1 82 45 [some (.ref 17), o1, some (.int v2), o3, o4] [] ((119, a, b), zx_pk (zK L) 119, σ, τ, zR) = some (none, ((119, a, b), zx_pk (zK L) 119, r, τ, zR)) := by
  unfold zb_Reader_findThread_45 at H
  rw [zs_aload_n (ls := [some (.ref 17), o1, some (.int v2), o3, o4]) zd_82_45 rfl]
  rw [zs_getR (n := 119) (K := zx_pk (zK L) 119) (ρ := zR) (c := 7) (k := 2) (q := 17) (p := 18) zd_82_46 rfl rfl rfl (by decide) rfl]
  rw [zs_aload_n (ls := [some (.ref 17), o1, some (.int v2), o3, o4]) zd_82_49 rfl]
  rw [zs_getR (n := 119) (K := zx_pk (zK L) 119) (ρ := zR) (c := 7) (k := 4) (q := 17) (p := 23) zd_82_50 rfl rfl rfl (by decide) rfl]
  rw [zs_iload_n (ls := [some (.ref 17), o1, some (.int v2), o3, o4]) zd_82_53 rfl]
  by_cases c5 : 0 ≤ v2 ∧ v2 < 96
  · rw [if_pos c5] at H
    rw [zp_laload (n := 119) (K := zx_pk (zK L) 119) (τ := τ) (q := 23) (m := 96) (i := v2) (k := v2.toNatClampNeg) (v := (τ 23 v2.toNatClampNeg)) zd_82_54 rfl (by decide) (zJ_in c5 rfl) rfl rfl]
    rw [zs_iconst (z := 2) zd_82_55 (by decide)]
    obtain ⟨r6, hr6, H⟩ := Option.bind_eq_some_iff.mp H
    rw [zp_callVi (x := r6) (st := [.int 2, .long (τ 23 v2.toNatClampNeg), .ref 18]) (as := [.ref 18, .long (τ 23 v2.toNatClampNeg), .int 2]) (rest := []) (e := 0) zd_82_56 rfl (by decide +kernel) (by decide) rfl rfl (Nat.le_of_ble_eq_true rfl) (zx_rcb_ok rfl (show 18 < 119 by decide)) (Nat.le_of_ble_eq_true rfl) rfl (by decide) (zt_Names_numberOf hr6)]
    rw [zs_istore (x := r6) (ls' := [some (.ref 17), o1, some (.int v2), (zJ_cl o3), some (.int r6)]) zd_82_59 (Nat.le_of_ble_eq_true rfl) (zJ_s1 (k := 3) (o := o3) rfl)]
    rw [zs_iload (ls := [some (.ref 17), o1, some (.int v2), (zJ_cl o3), some (.int r6)]) zd_82_61 rfl]
    rw [zs_iconst (z := (-1)) zd_82_63 (by decide)]
    by_cases c7 : ¬ r6 = (-1)
    · rw [if_pos c7] at H
      rw [zp_icmp_ne_t (x := r6) (y := (-1)) (t := 85) zd_82_64 rfl c7]
      rw [zs_aload_n (ls := [some (.ref 17), o1, some (.int v2), (zJ_cl o3), some (.int r6)]) zd_82_85 rfl]
      rw [zs_getR (n := 119) (K := zx_pk (zK L) 119) (ρ := zR) (c := 7) (k := 0) (q := 17) (p := 4) zd_82_86 rfl rfl rfl (by decide) rfl]
      rw [zs_iload_n (ls := [some (.ref 17), o1, some (.int v2), (zJ_cl o3), some (.int r6)]) zd_82_89 rfl]
      rw [zs_iload (ls := [some (.ref 17), o1, some (.int v2), (zJ_cl o3), some (.int r6)]) zd_82_90 rfl]
      obtain ⟨r8, hr8, H⟩ := Option.bind_eq_some_iff.mp H
      rw [zp_callVv (st := [.int r6, .int v2, .ref 4]) (as := [.ref 4, .int v2, .int r6]) (rest := []) (e := 0) zd_82_92 rfl (by decide +kernel) (by decide) rfl rfl (Nat.le_of_ble_eq_true rfl) (zx_rcb_ok rfl (show 4 < 119 by decide)) (Nat.le_of_ble_eq_true rfl) rfl (by decide) (zt_Program_setThread hr8)]
      have H := Option.some.inj H
      subst H
      exact zs_return zd_82_95 (by decide +kernel)
    · rw [if_neg c7] at H
      rw [zp_icmp_ne_f (x := r6) (y := (-1)) (t := 85) zd_82_64 rfl c7]
      rw [zs_aload_n (ls := [some (.ref 17), o1, some (.int v2), (zJ_cl o3), some (.int r6)]) zd_82_67 rfl]
      rw [zs_iconst (z := 5) zd_82_68 (by decide)]
      rw [zs_putI (n := 119) (K := zx_pk (zK L) 119) (c := 7) (k := 6) (q := 17) (x := 5) zd_82_69 rfl rfl (by decide +kernel) rfl (by decide)]
      rw [zs_aload_n (ls := [some (.ref 17), o1, some (.int v2), (zJ_cl o3), some (.int r6)]) zd_82_72 rfl]
      rw [zs_aload_n (ls := [some (.ref 17), o1, some (.int v2), (zJ_cl o3), some (.int r6)]) zd_82_73 rfl]
      rw [zs_getR (n := 119) (K := zx_pk (zK L) 119) (ρ := zR) (c := 7) (k := 5) (q := 17) (p := 24) zd_82_74 rfl rfl rfl (by decide) rfl]
      rw [zs_iload_n (ls := [some (.ref 17), o1, some (.int v2), (zJ_cl o3), some (.int r6)]) zd_82_77 rfl]
      by_cases c9 : 0 ≤ v2 ∧ v2 < 96
      · rw [if_pos c9] at H
        rw [zp_iaload (n := 119) (K := zx_pk (zK L) 119) (σ := (zx_up σ 17 6 5)) (q := 24) (m := 96) (i := v2) (k := v2.toNatClampNeg) (v := (σ 24 v2.toNatClampNeg)) zd_82_78 rfl (by decide) (zJ_in c9 rfl) rfl (show ((zx_up σ 17 6 5) : zS) 24 v2.toNatClampNeg = (σ 24 v2.toNatClampNeg) from ((zx_up_ne (by decide)).trans rfl))]
        rw [zs_putI (n := 119) (K := zx_pk (zK L) 119) (c := 7) (k := 7) (q := 17) (x := (σ 24 v2.toNatClampNeg)) zd_82_79 rfl rfl (by decide +kernel) rfl (by decide)]
        rw [zs_goto (t := 95) zd_82_82 rfl]
        have H := Option.some.inj H
        subst H
        exact zs_return zd_82_95 (by decide +kernel)
      · rw [if_neg c9] at H
        cases H
  · rw [if_neg c5] at H
    cases H
set_option maxRecDepth 20000 in
theorem zt_Reader_findThread {a b L N : Nat} {σ : zS} {τ : zT} {x1 : Int32} {r : zS} (H : zf_Reader_findThread N σ τ x1 = some r) : zx_go 1 82 0 [some (.ref 17), some (.int x1), none, none, none] [] ((119, a, b), zx_pk (zK L) 119, σ, τ, zR) = some (none, ((119, a, b), zx_pk (zK L) 119, r, τ, zR)) := by
  unfold zf_Reader_findThread at H
  rw [zs_aload_n (ls := [some (.ref 17), some (.int x1), none, none, none]) zd_82_0 rfl]
  rw [zs_getR (n := 119) (K := zx_pk (zK L) 119) (ρ := zR) (c := 7) (k := 0) (q := 17) (p := 4) zd_82_1 rfl rfl rfl (by decide) rfl]
  rw [zs_iload_n (ls := [some (.ref 17), some (.int x1), none, none, none]) zd_82_4 rfl]
  rw [zs_bipush (z := 24) zd_82_5 (by decide)]
  rw [zp_idiv (x := x1) (y := 24) (z := (x1 / 24)) zd_82_7 (by decide) rfl]
  rw [zs_iload_n (ls := [some (.ref 17), some (.int x1), none, none, none]) zd_82_8 rfl]
  rw [zs_bipush (z := 24) zd_82_9 (by decide)]
  rw [zp_irem (x := x1) (y := 24) (z := (zJ_rem x1 24)) zd_82_11 (by decide) rfl]
  obtain ⟨r1, hr1, H⟩ := Option.bind_eq_some_iff.mp H
  rw [zp_callVi (x := r1) (st := [.int (zJ_rem x1 24), .int (x1 / 24), .ref 4]) (as := [.ref 4, .int (x1 / 24), .int (zJ_rem x1 24)]) (rest := []) (e := 0) zd_82_12 rfl (by decide +kernel) (by decide) rfl rfl (Nat.le_of_ble_eq_true rfl) (zx_rcb_ok rfl (show 4 < 119 by decide)) (Nat.le_of_ble_eq_true rfl) rfl (by decide) (zt_Program_slotOf hr1)]
  rw [zs_istore_n (x := r1) (ls' := [some (.ref 17), some (.int x1), some (.int r1), none, none]) zd_82_15 (Nat.le_of_ble_eq_true rfl) rfl]
  rw [zs_aload_n (ls := [some (.ref 17), some (.int x1), some (.int r1), none, none]) zd_82_16 rfl]
  rw [zs_getR (n := 119) (K := zx_pk (zK L) 119) (ρ := zR) (c := 7) (k := 0) (q := 17) (p := 4) zd_82_17 rfl rfl rfl (by decide) rfl]
  rw [zs_getR (n := 119) (K := zx_pk (zK L) 119) (ρ := zR) (c := 6) (k := 9) (q := 4) (p := 7) zd_82_20 rfl rfl rfl (by decide) rfl]
  rw [zs_iload_n (ls := [some (.ref 17), some (.int x1), some (.int r1), none, none]) zd_82_23 rfl]
  by_cases c2 : 0 ≤ r1 ∧ r1 < 97
  · rw [if_pos c2] at H
    rw [zp_iaload (n := 119) (K := zx_pk (zK L) 119) (σ := σ) (q := 7) (m := 97) (i := r1) (k := r1.toNatClampNeg) (v := (σ 7 r1.toNatClampNeg)) zd_82_24 rfl (by decide) (zJ_in c2 rfl) rfl rfl]
    rw [zs_istore_n (x := (σ 7 r1.toNatClampNeg)) (ls' := [some (.ref 17), some (.int x1), some (.int r1), some (.int (σ 7 r1.toNatClampNeg)), none]) zd_82_25 (Nat.le_of_ble_eq_true rfl) rfl]
    rw [zs_iload_n (ls := [some (.ref 17), some (.int x1), some (.int r1), some (.int (σ 7 r1.toNatClampNeg)), none]) zd_82_26 rfl]
    rw [zs_bipush (z := 96) zd_82_27 (by decide)]
    by_cases c3 : 96 ≤ r1
    · rw [if_pos c3] at H
      rw [zp_icmp_ge_t (x := r1) (y := 96) (t := 44) zd_82_29 rfl c3]
      have H := Option.some.inj H
      subst H
      exact zs_return zd_82_44 (by decide +kernel)
    · rw [if_neg c3] at H
      rw [zp_icmp_ge_f (x := r1) (y := 96) (t := 44) zd_82_29 rfl c3]
      rw [zs_iload_n (ls := [some (.ref 17), some (.int x1), some (.int r1), some (.int (σ 7 r1.toNatClampNeg)), none]) zd_82_32 rfl]
      rw [zs_bipush (z := 10) zd_82_33 (by decide)]
      by_cases c4 : (σ 7 r1.toNatClampNeg) = 10
      · rw [if_pos c4] at H
        rw [zp_icmp_eq_t (x := (σ 7 r1.toNatClampNeg)) (y := 10) (t := 45) zd_82_35 rfl c4]
        exact zt_Reader_findThread_45  H
      · rw [if_neg c4] at H
        rw [zp_icmp_eq_f (x := (σ 7 r1.toNatClampNeg)) (y := 10) (t := 45) zd_82_35 rfl c4]
        rw [zs_iload_n (ls := [some (.ref 17), some (.int x1), some (.int r1), some (.int (σ 7 r1.toNatClampNeg)), none]) zd_82_38 rfl]
        rw [zs_bipush (z := 11) zd_82_39 (by decide)]
        by_cases c10 : (σ 7 r1.toNatClampNeg) = 11
        · rw [if_pos c10] at H
          rw [zp_icmp_eq_t (x := (σ 7 r1.toNatClampNeg)) (y := 11) (t := 45) zd_82_41 rfl c10]
          exact zt_Reader_findThread_45  H
        · rw [if_neg c10] at H
          rw [zp_icmp_eq_f (x := (σ 7 r1.toNatClampNeg)) (y := 11) (t := 45) zd_82_41 rfl c10]
          have H := Option.some.inj H
          subst H
          exact zs_return zd_82_44 (by decide +kernel)
  · rw [if_neg c2] at H
    cases H
set_option maxRecDepth 20000 in
theorem zt_Reader_failHere_17 {a b L : Nat} {σ : zS} {τ : zT} {s0 : Int32} {o1 : Option Value} {r : Int32 × zS} (H : zb_Reader_failHere_17 σ s0 = some r) : zx_go 0 41 17 [some (.ref 17), o1] [.int s0, .ref 17] ((119, a, b), zx_pk (zK L) 119, σ, τ, zR) = some (some (.int r.1), ((119, a, b), zx_pk (zK L) 119, r.2, τ, zR)) := by
  unfold zb_Reader_failHere_17 at H
  rw [zs_putI (n := 119) (K := zx_pk (zK L) 119) (c := 7) (k := 6) (q := 17) (x := s0) zd_41_17 rfl rfl (by decide +kernel) rfl (by decide)]
  rw [zs_aload_n (ls := [some (.ref 17), o1]) zd_41_20 rfl]
  rw [zs_aload_n (ls := [some (.ref 17), o1]) zd_41_21 rfl]
  rw [zs_getR (n := 119) (K := zx_pk (zK L) 119) (ρ := zR) (c := 7) (k := 1) (q := 17) (p := 25) zd_41_22 rfl rfl rfl (by decide) rfl]
  rw [zp_getI (n := 119) (K := zx_pk (zK L) 119) (σ := (zx_up σ 17 6 s0)) (c := 9) (k := 8) (q := 25) (v := (σ 25 8)) zd_41_25 rfl rfl rfl (by decide) (show ((zx_up σ 17 6 s0) : zS) 25 8 = (σ 25 8) from ((zx_up_ne (by decide)).trans rfl))]
  rw [zs_putI (n := 119) (K := zx_pk (zK L) 119) (c := 7) (k := 7) (q := 17) (x := (σ 25 8)) zd_41_28 rfl rfl (by decide +kernel) rfl (by decide)]
  rw [zs_iconst (z := 0) zd_41_31 (by decide)]
  have H := Option.some.inj H
  subst H
  exact zs_ireturn zd_41_32 (by decide +kernel)
set_option maxRecDepth 20000 in
theorem zt_Reader_failHere {a b L : Nat} {σ : zS} {τ : zT} {x1 : Int32} {r : Int32 × zS} (H : zf_Reader_failHere σ x1 = some r) : zx_go 0 41 0 [some (.ref 17), some (.int x1)] [] ((119, a, b), zx_pk (zK L) 119, σ, τ, zR) = some (some (.int r.1), ((119, a, b), zx_pk (zK L) 119, r.2, τ, zR)) := by
  unfold zf_Reader_failHere at H
  rw [zs_aload_n (ls := [some (.ref 17), some (.int x1)]) zd_41_0 rfl]
  rw [zs_aload_n (ls := [some (.ref 17), some (.int x1)]) zd_41_1 rfl]
  rw [zs_getR (n := 119) (K := zx_pk (zK L) 119) (ρ := zR) (c := 7) (k := 1) (q := 17) (p := 25) zd_41_2 rfl rfl rfl (by decide) rfl]
  rw [zp_getI (n := 119) (K := zx_pk (zK L) 119) (σ := σ) (c := 9) (k := 7) (q := 25) (v := (σ 25 7)) zd_41_5 rfl rfl rfl (by decide) rfl]
  rw [zs_iconst (z := 1) zd_41_8 (by decide)]
  by_cases c1 : ¬ (σ 25 7) = 1
  · rw [if_pos c1] at H
    rw [zp_icmp_ne_t (x := (σ 25 7)) (y := 1) (t := 16) zd_41_9 rfl c1]
    rw [zs_iload_n (ls := [some (.ref 17), some (.int x1)]) zd_41_16 rfl]
    exact zt_Reader_failHere_17  H
  · rw [if_neg c1] at H
    rw [zp_icmp_ne_f (x := (σ 25 7)) (y := 1) (t := 16) zd_41_9 rfl c1]
    rw [zs_iconst (z := 1) zd_41_12 (by decide)]
    rw [zs_goto (t := 17) zd_41_13 rfl]
    exact zt_Reader_failHere_17  H
set_option maxRecDepth 20000 in
theorem zt_Names_sortOf_2 {a b L N : Nat} : ∀ {n : Nat} {σ : zS} {τ : zT} {v1 : Int64} {v3 : Int32} {o2 : Option Value} {r : Int32}, zb_Names_sortOf_2 N n σ τ v1 v3 = some r → zx_go 0 51 2 [some (.ref 18), some (.long v1), o2, some (.int v3)] [] ((119, a, b), zx_pk (zK L) 119, σ, τ, zR) = some (some (.int r), ((119, a, b), zx_pk (zK L) 119, σ, τ, zR)) := by
  intro n
  induction n with
  | zero =>
    intro _ _ _ _ _ _ H
    cases H
  | succ n ih =>
    intro σ τ v1 v3 o2 r H
    rw [zb_Names_sortOf_2] at H
    rw [zs_iload_n (ls := [some (.ref 18), some (.long v1), o2, some (.int v3)]) zd_51_2 rfl]
    rw [zs_aload_n (ls := [some (.ref 18), some (.long v1), o2, some (.int v3)]) zd_51_3 rfl]
    rw [zp_getI (n := 119) (K := zx_pk (zK L) 119) (σ := σ) (c := 3) (k := 3) (q := 18) (v := (σ 18 3)) zd_51_4 rfl rfl rfl (by decide) rfl]
    by_cases c1 : (σ 18 3) ≤ v3
    · rw [if_pos c1] at H
      rw [zp_icmp_ge_t (x := v3) (y := (σ 18 3)) (t := 40) zd_51_7 rfl c1]
      rw [zs_iconst (z := (-1)) zd_51_40 (by decide)]
      have H := Option.some.inj H
      subst H
      exact zs_ireturn zd_51_41 (by decide +kernel)
    · rw [if_neg c1] at H
      rw [zp_icmp_ge_f (x := v3) (y := (σ 18 3)) (t := 40) zd_51_7 rfl c1]
      rw [zs_iload_n (ls := [some (.ref 18), some (.long v1), o2, some (.int v3)]) zd_51_10 rfl]
      rw [zs_bipush (z := 14) zd_51_11 (by decide)]
      by_cases c2 : 14 ≤ v3
      · rw [if_pos c2] at H
        rw [zp_icmp_ge_t (x := v3) (y := 14) (t := 40) zd_51_13 rfl c2]
        rw [zs_iconst (z := (-1)) zd_51_40 (by decide)]
        have H := Option.some.inj H
        subst H
        exact zs_ireturn zd_51_41 (by decide +kernel)
      · rw [if_neg c2] at H
        rw [zp_icmp_ge_f (x := v3) (y := 14) (t := 40) zd_51_13 rfl c2]
        rw [zs_aload_n (ls := [some (.ref 18), some (.long v1), o2, some (.int v3)]) zd_51_16 rfl]
        rw [zs_getR (n := 119) (K := zx_pk (zK L) 119) (ρ := zR) (c := 3) (k := 0) (q := 18) (p := 19) zd_51_17 rfl rfl rfl (by decide) rfl]
        rw [zs_iload_n (ls := [some (.ref 18), some (.long v1), o2, some (.int v3)]) zd_51_20 rfl]
        by_cases c3 : 0 ≤ v3 ∧ v3 < 14
        · rw [if_pos c3] at H
          rw [zp_laload (n := 119) (K := zx_pk (zK L) 119) (τ := τ) (q := 19) (m := 14) (i := v3) (k := v3.toNatClampNeg) (v := (τ 19 v3.toNatClampNeg)) zd_51_21 rfl (by decide) (zJ_in c3 rfl) rfl rfl]
          rw [zs_lload_n (ls := [some (.ref 18), some (.long v1), o2, some (.int v3)]) zd_51_22 rfl]
          rw [zp_lcmp (x := (τ 19 v3.toNatClampNeg)) (y := v1) (z := (lg_cmp (τ 19 v3.toNatClampNeg) v1)) zd_51_23 rfl]
          by_cases c4 : ¬ (τ 19 v3.toNatClampNeg) = v1
          · rw [if_pos c4] at H
            rw [zp_if_ne_t (x := (lg_cmp (τ 19 v3.toNatClampNeg) v1)) (t := 34) zd_51_24 rfl (fun q => c4 (zJ_lc.mpr q))]
            rw [zs_iinc (ls := [some (.ref 18), some (.long v1), o2, some (.int v3)]) (x := v3) (z := (v3 + 1)) (ls' := [some (.ref 18), some (.long v1), (zJ_cl o2), some (.int (v3 + 1))]) zd_51_34 rfl rfl (zJ_s1 (k := 2) (o := o2) rfl)]
            rw [zs_goto (t := 2) zd_51_37 rfl]
            exact ih H
          · rw [if_neg c4] at H
            rw [zp_if_ne_f (x := (lg_cmp (τ 19 v3.toNatClampNeg) v1)) (t := 34) zd_51_24 rfl (fun q => c4 (fun q2 => q (zJ_lc.mp q2)))]
            rw [zs_aload_n (ls := [some (.ref 18), some (.long v1), o2, some (.int v3)]) zd_51_27 rfl]
            rw [zs_getR (n := 119) (K := zx_pk (zK L) 119) (ρ := zR) (c := 3) (k := 1) (q := 18) (p := 20) zd_51_28 rfl rfl rfl (by decide) rfl]
            rw [zs_iload_n (ls := [some (.ref 18), some (.long v1), o2, some (.int v3)]) zd_51_31 rfl]
            by_cases c5 : 0 ≤ v3 ∧ v3 < 14
            · rw [if_pos c5] at H
              rw [zp_iaload (n := 119) (K := zx_pk (zK L) 119) (σ := σ) (q := 20) (m := 14) (i := v3) (k := v3.toNatClampNeg) (v := (σ 20 v3.toNatClampNeg)) zd_51_32 rfl (by decide) (zJ_in c5 rfl) rfl rfl]
              have H := Option.some.inj H
              subst H
              exact zs_ireturn zd_51_33 rfl
            · rw [if_neg c5] at H
              cases H
        · rw [if_neg c3] at H
          cases H
set_option maxRecDepth 20000 in
theorem zt_Names_sortOf {a b L N : Nat} {σ : zS} {τ : zT} {x1 : Int64} {r : Int32} (H : zf_Names_sortOf N σ τ x1 = some r) : zx_go 0 51 0 [some (.ref 18), some (.long x1), none, none] [] ((119, a, b), zx_pk (zK L) 119, σ, τ, zR) = some (some (.int r), ((119, a, b), zx_pk (zK L) 119, σ, τ, zR)) := by
  unfold zf_Names_sortOf at H
  rw [zs_iconst (z := 0) zd_51_0 (by decide)]
  rw [zs_istore_n (x := 0) (ls' := [some (.ref 18), some (.long x1), none, some (.int 0)]) zd_51_1 (Nat.le_of_ble_eq_true rfl) rfl]
  exact zt_Names_sortOf_2  H
set_option maxRecDepth 20000 in
theorem zt_Names_tell {a b L : Nat} {σ : zS} {τ : zT} {x1 : Int64} {x2 : Int32} {x3 : Int32} {r : zS × zT} (H : zf_Names_tell σ τ x1 x2 x3 = some r) : zx_go 0 77 0 [some (.ref 18), some (.long x1), none, some (.int x2), some (.int x3)] [] ((119, a, b), zx_pk (zK L) 119, σ, τ, zR) = some (none, ((119, a, b), zx_pk (zK L) 119, r.1, r.2, zR)) := by
  unfold zf_Names_tell at H
  rw [zs_aload_n (ls := [some (.ref 18), some (.long x1), none, some (.int x2), some (.int x3)]) zd_77_0 rfl]
  rw [zp_getI (n := 119) (K := zx_pk (zK L) 119) (σ := σ) (c := 3) (k := 3) (q := 18) (v := (σ 18 3)) zd_77_1 rfl rfl rfl (by decide) rfl]
  by_cases c1 : (σ 18 3) < 0
  · rw [if_pos c1] at H
    rw [zp_if_lt_t (x := (σ 18 3)) (t := 57) zd_77_4 rfl c1]
    have H := Option.some.inj H
    subst H
    exact zs_return zd_77_57 (by decide +kernel)
  · rw [if_neg c1] at H
    rw [zp_if_lt_f (x := (σ 18 3)) (t := 57) zd_77_4 rfl c1]
    rw [zs_aload_n (ls := [some (.ref 18), some (.long x1), none, some (.int x2), some (.int x3)]) zd_77_7 rfl]
    rw [zp_getI (n := 119) (K := zx_pk (zK L) 119) (σ := σ) (c := 3) (k := 3) (q := 18) (v := (σ 18 3)) zd_77_8 rfl rfl rfl (by decide) rfl]
    rw [zs_bipush (z := 14) zd_77_11 (by decide)]
    by_cases c2 : 14 ≤ (σ 18 3)
    · rw [if_pos c2] at H
      rw [zp_icmp_ge_t (x := (σ 18 3)) (y := 14) (t := 57) zd_77_13 rfl c2]
      have H := Option.some.inj H
      subst H
      exact zs_return zd_77_57 (by decide +kernel)
    · rw [if_neg c2] at H
      rw [zp_icmp_ge_f (x := (σ 18 3)) (y := 14) (t := 57) zd_77_13 rfl c2]
      rw [zs_aload_n (ls := [some (.ref 18), some (.long x1), none, some (.int x2), some (.int x3)]) zd_77_16 rfl]
      rw [zs_getR (n := 119) (K := zx_pk (zK L) 119) (ρ := zR) (c := 3) (k := 0) (q := 18) (p := 19) zd_77_17 rfl rfl rfl (by decide) rfl]
      rw [zs_aload_n (ls := [some (.ref 18), some (.long x1), none, some (.int x2), some (.int x3)]) zd_77_20 rfl]
      rw [zp_getI (n := 119) (K := zx_pk (zK L) 119) (σ := σ) (c := 3) (k := 3) (q := 18) (v := (σ 18 3)) zd_77_21 rfl rfl rfl (by decide) rfl]
      rw [zs_lload_n (ls := [some (.ref 18), some (.long x1), none, some (.int x2), some (.int x3)]) zd_77_24 rfl]
      by_cases c3 : 0 ≤ (σ 18 3) ∧ (σ 18 3) < 14
      · rw [if_pos c3] at H
        rw [zp_lastore (n := 119) (K := zx_pk (zK L) 119) (q := 19) (m := 14) (i := (σ 18 3)) (k := (σ 18 3).toNatClampNeg) (x := x1) (z := x1) zd_77_25 rfl ⟨by decide, by decide⟩ (zJ_in c3 rfl) rfl rfl]
        rw [zs_aload_n (ls := [some (.ref 18), some (.long x1), none, some (.int x2), some (.int x3)]) zd_77_26 rfl]
        rw [zs_getR (n := 119) (K := zx_pk (zK L) 119) (ρ := zR) (c := 3) (k := 1) (q := 18) (p := 20) zd_77_27 rfl rfl rfl (by decide) rfl]
        rw [zs_aload_n (ls := [some (.ref 18), some (.long x1), none, some (.int x2), some (.int x3)]) zd_77_30 rfl]
        rw [zp_getI (n := 119) (K := zx_pk (zK L) 119) (σ := σ) (c := 3) (k := 3) (q := 18) (v := (σ 18 3)) zd_77_31 rfl rfl rfl (by decide) rfl]
        rw [zs_iload_n (ls := [some (.ref 18), some (.long x1), none, some (.int x2), some (.int x3)]) zd_77_34 rfl]
        by_cases c4 : 0 ≤ (σ 18 3) ∧ (σ 18 3) < 14
        · rw [if_pos c4] at H
          rw [zp_iastore (n := 119) (K := zx_pk (zK L) 119) (q := 20) (m := 14) (i := (σ 18 3)) (k := (σ 18 3).toNatClampNeg) (x := x2) (z := x2) zd_77_35 rfl ⟨by decide, by decide⟩ (zJ_in c4 rfl) rfl rfl]
          rw [zs_aload_n (ls := [some (.ref 18), some (.long x1), none, some (.int x2), some (.int x3)]) zd_77_36 rfl]
          rw [zs_getR (n := 119) (K := zx_pk (zK L) 119) (ρ := zR) (c := 3) (k := 2) (q := 18) (p := 21) zd_77_37 rfl rfl rfl (by decide) rfl]
          rw [zs_aload_n (ls := [some (.ref 18), some (.long x1), none, some (.int x2), some (.int x3)]) zd_77_40 rfl]
          rw [zp_getI (n := 119) (K := zx_pk (zK L) 119) (σ := (zx_up σ 20 (σ 18 3).toNatClampNeg x2)) (c := 3) (k := 3) (q := 18) (v := (σ 18 3)) zd_77_41 rfl rfl rfl (by decide) (show ((zx_up σ 20 (σ 18 3).toNatClampNeg x2) : zS) 18 3 = (σ 18 3) from ((zx_up_ne (by decide)).trans rfl))]
          rw [zs_iload (ls := [some (.ref 18), some (.long x1), none, some (.int x2), some (.int x3)]) zd_77_44 rfl]
          by_cases c5 : 0 ≤ (σ 18 3) ∧ (σ 18 3) < 14
          · rw [if_pos c5] at H
            rw [zp_iastore (n := 119) (K := zx_pk (zK L) 119) (q := 21) (m := 14) (i := (σ 18 3)) (k := (σ 18 3).toNatClampNeg) (x := x3) (z := x3) zd_77_46 rfl ⟨by decide, by decide⟩ (zJ_in c5 rfl) rfl rfl]
            rw [zs_aload_n (ls := [some (.ref 18), some (.long x1), none, some (.int x2), some (.int x3)]) zd_77_47 rfl]
            rw [zs_dup (a := .ref 18) zd_77_48 rfl]
            rw [zp_getI (n := 119) (K := zx_pk (zK L) 119) (σ := (zx_up (zx_up σ 20 (σ 18 3).toNatClampNeg x2) 21 (σ 18 3).toNatClampNeg x3)) (c := 3) (k := 3) (q := 18) (v := (σ 18 3)) zd_77_49 rfl rfl rfl (by decide) (show ((zx_up (zx_up σ 20 (σ 18 3).toNatClampNeg x2) 21 (σ 18 3).toNatClampNeg x3) : zS) 18 3 = (σ 18 3) from ((zx_up_ne (by decide)).trans ((zx_up_ne (by decide)).trans rfl)))]
            rw [zs_iconst (z := 1) zd_77_52 (by decide)]
            rw [zp_iadd (x := (σ 18 3)) (y := 1) (z := ((σ 18 3) + 1)) zd_77_53 rfl]
            rw [zs_putI (n := 119) (K := zx_pk (zK L) 119) (c := 3) (k := 3) (q := 18) (x := ((σ 18 3) + 1)) zd_77_54 rfl rfl (by decide +kernel) rfl (by decide)]
            have H := Option.some.inj H
            subst H
            exact zs_return zd_77_57 (by decide +kernel)
          · rw [if_neg c5] at H
            cases H
        · rw [if_neg c4] at H
          cases H
      · rw [if_neg c3] at H
        cases H
set_option maxRecDepth 20000 in
theorem zt_Reader_tellName {a b L N : Nat} {σ : zS} {τ : zT} {x1 : Int32} {x2 : Int32} {x3 : Int32} {r : Int32 × zS × zT} (H : zf_Reader_tellName N σ τ x1 x2 x3 = some r) : zx_go 1 76 0 [some (.ref 17), some (.int x1), some (.int x2), some (.int x3)] [] ((119, a, b), zx_pk (zK L) 119, σ, τ, zR) = some (some (.int r.1), ((119, a, b), zx_pk (zK L) 119, r.2.1, r.2.2, zR)) := by
  unfold zf_Reader_tellName at H
  rw [zs_aload_n (ls := [some (.ref 17), some (.int x1), some (.int x2), some (.int x3)]) zd_76_0 rfl]
  rw [zs_getR (n := 119) (K := zx_pk (zK L) 119) (ρ := zR) (c := 7) (k := 1) (q := 17) (p := 25) zd_76_1 rfl rfl rfl (by decide) rfl]
  rw [zp_getI (n := 119) (K := zx_pk (zK L) 119) (σ := σ) (c := 9) (k := 7) (q := 25) (v := (σ 25 7)) zd_76_4 rfl rfl rfl (by decide) rfl]
  rw [zs_iconst (z := 3) zd_76_7 (by decide)]
  by_cases c1 : (σ 25 7) = 3
  · rw [if_pos c1] at H
    rw [zp_icmp_eq_t (x := (σ 25 7)) (y := 3) (t := 17) zd_76_8 rfl c1]
    rw [zs_aload_n (ls := [some (.ref 17), some (.int x1), some (.int x2), some (.int x3)]) zd_76_17 rfl]
    rw [zs_getR (n := 119) (K := zx_pk (zK L) 119) (ρ := zR) (c := 7) (k := 2) (q := 17) (p := 18) zd_76_18 rfl rfl rfl (by decide) rfl]
    rw [zs_aload_n (ls := [some (.ref 17), some (.int x1), some (.int x2), some (.int x3)]) zd_76_21 rfl]
    rw [zs_getR (n := 119) (K := zx_pk (zK L) 119) (ρ := zR) (c := 7) (k := 1) (q := 17) (p := 25) zd_76_22 rfl rfl rfl (by decide) rfl]
    rw [zp_getL (n := 119) (K := zx_pk (zK L) 119) (τ := τ) (c := 9) (k := 9) (q := 25) (v := (τ 25 9)) zd_76_25 rfl rfl rfl (by decide) rfl]
    obtain ⟨r2, hr2, H⟩ := Option.bind_eq_some_iff.mp H
    rw [zp_callVi (x := r2) (st := [.long (τ 25 9), .ref 18]) (as := [.ref 18, .long (τ 25 9)]) (rest := []) (e := 0) zd_76_28 rfl (by decide +kernel) (by decide) rfl rfl (Nat.le_of_ble_eq_true rfl) (zx_rcb_ok rfl (show 18 < 119 by decide)) (Nat.le_of_ble_eq_true rfl) rfl (by decide) (zt_Names_sortOf hr2)]
    rw [zs_iconst (z := (-1)) zd_76_31 (by decide)]
    by_cases c3 : r2 = (-1)
    · rw [if_pos c3] at H
      rw [zp_icmp_eq_t (x := r2) (y := (-1)) (t := 41) zd_76_32 rfl c3]
      rw [zs_iload_n (ls := [some (.ref 17), some (.int x1), some (.int x2), some (.int x3)]) zd_76_41 rfl]
      rw [zs_iload_n (ls := [some (.ref 17), some (.int x1), some (.int x2), some (.int x3)]) zd_76_42 rfl]
      by_cases c4 : x2 < x3
      · rw [if_pos c4] at H
        rw [zp_icmp_lt_t (x := x2) (y := x3) (t := 52) zd_76_43 rfl c4]
        rw [zs_aload_n (ls := [some (.ref 17), some (.int x1), some (.int x2), some (.int x3)]) zd_76_52 rfl]
        rw [zs_getR (n := 119) (K := zx_pk (zK L) 119) (ρ := zR) (c := 7) (k := 2) (q := 17) (p := 18) zd_76_53 rfl rfl rfl (by decide) rfl]
        rw [zs_aload_n (ls := [some (.ref 17), some (.int x1), some (.int x2), some (.int x3)]) zd_76_56 rfl]
        rw [zs_getR (n := 119) (K := zx_pk (zK L) 119) (ρ := zR) (c := 7) (k := 1) (q := 17) (p := 25) zd_76_57 rfl rfl rfl (by decide) rfl]
        rw [zp_getL (n := 119) (K := zx_pk (zK L) 119) (τ := τ) (c := 9) (k := 9) (q := 25) (v := (τ 25 9)) zd_76_60 rfl rfl rfl (by decide) rfl]
        rw [zs_iload_n (ls := [some (.ref 17), some (.int x1), some (.int x2), some (.int x3)]) zd_76_63 rfl]
        rw [zs_iload_n (ls := [some (.ref 17), some (.int x1), some (.int x2), some (.int x3)]) zd_76_64 rfl]
        obtain ⟨r5, hr5, H⟩ := Option.bind_eq_some_iff.mp H
        rw [zp_callVv (st := [.int x2, .int x1, .long (τ 25 9), .ref 18]) (as := [.ref 18, .long (τ 25 9), .int x1, .int x2]) (rest := []) (e := 0) zd_76_65 rfl (by decide +kernel) (by decide) rfl rfl (Nat.le_of_ble_eq_true rfl) (zx_rcb_ok rfl (show 18 < 119 by decide)) (Nat.le_of_ble_eq_true rfl) rfl (by decide) (zt_Names_tell hr5)]
        rw [zs_aload_n (ls := [some (.ref 17), some (.int x1), some (.int x2), some (.int x3)]) zd_76_68 rfl]
        rw [zs_getR (n := 119) (K := zx_pk (zK L) 119) (ρ := zR) (c := 7) (k := 1) (q := 17) (p := 25) zd_76_69 rfl rfl rfl (by decide) rfl]
        obtain ⟨r6, hr6, H⟩ := Option.bind_eq_some_iff.mp H
        rw [zp_callVv (st := [.ref 25]) (as := [.ref 25]) (rest := []) (e := 0) zd_76_72 rfl (by decide +kernel) (by decide) rfl rfl (Nat.le_of_ble_eq_true rfl) (zx_rcb_ok rfl (show 25 < 119 by decide)) (Nat.le_of_ble_eq_true rfl) rfl (by decide) (zt_Tokens_advance hr6)]
        rw [zs_iconst (z := 1) zd_76_75 (by decide)]
        have H := Option.some.inj H
        subst H
        exact zs_ireturn zd_76_76 (by decide +kernel)
      · rw [if_neg c4] at H
        rw [zp_icmp_lt_f (x := x2) (y := x3) (t := 52) zd_76_43 rfl c4]
        rw [zs_aload_n (ls := [some (.ref 17), some (.int x1), some (.int x2), some (.int x3)]) zd_76_46 rfl]
        rw [zs_iconst (z := 4) zd_76_47 (by decide)]
        obtain ⟨r7, hr7, H⟩ := Option.bind_eq_some_iff.mp H
        rw [zp_callVi (x := r7.1) (st := [.int 4, .ref 17]) (as := [.ref 17, .int 4]) (rest := []) (e := 0) zd_76_48 rfl (by decide +kernel) (by decide) rfl rfl (Nat.le_of_ble_eq_true rfl) (zx_rcb_ok rfl (show 17 < 119 by decide)) (Nat.le_of_ble_eq_true rfl) rfl (by decide) (zt_Reader_failHere hr7)]
        by_cases c8 : r7.1 = 0 ∨ r7.1 = 1
        · rw [if_pos c8] at H
          have H := Option.some.inj H
          subst H
          exact zs_ireturn zd_76_51 (zJ_bt c8)
        · rw [if_neg c8] at H
          cases H
    · rw [if_neg c3] at H
      rw [zp_icmp_eq_f (x := r2) (y := (-1)) (t := 41) zd_76_32 rfl c3]
      rw [zs_aload_n (ls := [some (.ref 17), some (.int x1), some (.int x2), some (.int x3)]) zd_76_35 rfl]
      rw [zs_iconst (z := 3) zd_76_36 (by decide)]
      obtain ⟨r9, hr9, H⟩ := Option.bind_eq_some_iff.mp H
      rw [zp_callVi (x := r9.1) (st := [.int 3, .ref 17]) (as := [.ref 17, .int 3]) (rest := []) (e := 0) zd_76_37 rfl (by decide +kernel) (by decide) rfl rfl (Nat.le_of_ble_eq_true rfl) (zx_rcb_ok rfl (show 17 < 119 by decide)) (Nat.le_of_ble_eq_true rfl) rfl (by decide) (zt_Reader_failHere hr9)]
      by_cases c10 : r9.1 = 0 ∨ r9.1 = 1
      · rw [if_pos c10] at H
        have H := Option.some.inj H
        subst H
        exact zs_ireturn zd_76_40 (zJ_bt c10)
      · rw [if_neg c10] at H
        cases H
  · rw [if_neg c1] at H
    rw [zp_icmp_eq_f (x := (σ 25 7)) (y := 3) (t := 17) zd_76_8 rfl c1]
    rw [zs_aload_n (ls := [some (.ref 17), some (.int x1), some (.int x2), some (.int x3)]) zd_76_11 rfl]
    rw [zs_iconst (z := 2) zd_76_12 (by decide)]
    obtain ⟨r11, hr11, H⟩ := Option.bind_eq_some_iff.mp H
    rw [zp_callVi (x := r11.1) (st := [.int 2, .ref 17]) (as := [.ref 17, .int 2]) (rest := []) (e := 0) zd_76_13 rfl (by decide +kernel) (by decide) rfl rfl (Nat.le_of_ble_eq_true rfl) (zx_rcb_ok rfl (show 17 < 119 by decide)) (Nat.le_of_ble_eq_true rfl) rfl (by decide) (zt_Reader_failHere hr11)]
    by_cases c12 : r11.1 = 0 ∨ r11.1 = 1
    · rw [if_pos c12] at H
      have H := Option.some.inj H
      subst H
      exact zs_ireturn zd_76_16 (zJ_bt c12)
    · rw [if_neg c12] at H
      cases H
set_option maxRecDepth 20000 in
theorem zt_Names_forgetLocals {a b L : Nat} {σ : zS} {τ : zT} {r : zS} (H : zf_Names_forgetLocals σ = some r) : zx_go 0 81 0 [some (.ref 18)] [] ((119, a, b), zx_pk (zK L) 119, σ, τ, zR) = some (none, ((119, a, b), zx_pk (zK L) 119, r, τ, zR)) := by
  unfold zf_Names_forgetLocals at H
  rw [zs_aload_n (ls := [some (.ref 18)]) zd_81_0 rfl]
  rw [zs_iconst (z := 0) zd_81_1 (by decide)]
  rw [zs_putI (n := 119) (K := zx_pk (zK L) 119) (c := 3) (k := 5) (q := 18) (x := 0) zd_81_2 rfl rfl (by decide +kernel) rfl (by decide)]
  have H := Option.some.inj H
  subst H
  exact zs_return zd_81_5 (by decide +kernel)
set_option maxRecDepth 20000 in
theorem zt_Reader_expect {a b L : Nat} {σ : zS} {τ : zT} {x1 : Int32} {r : Int32 × zS × zT} (H : zf_Reader_expect σ τ x1 = some r) : zx_go 1 43 0 [some (.ref 17), some (.int x1)] [] ((119, a, b), zx_pk (zK L) 119, σ, τ, zR) = some (some (.int r.1), ((119, a, b), zx_pk (zK L) 119, r.2.1, r.2.2, zR)) := by
  unfold zf_Reader_expect at H
  rw [zs_aload_n (ls := [some (.ref 17), some (.int x1)]) zd_43_0 rfl]
  rw [zs_getR (n := 119) (K := zx_pk (zK L) 119) (ρ := zR) (c := 7) (k := 1) (q := 17) (p := 25) zd_43_1 rfl rfl rfl (by decide) rfl]
  rw [zp_getI (n := 119) (K := zx_pk (zK L) 119) (σ := σ) (c := 9) (k := 7) (q := 25) (v := (σ 25 7)) zd_43_4 rfl rfl rfl (by decide) rfl]
  rw [zs_iload_n (ls := [some (.ref 17), some (.int x1)]) zd_43_7 rfl]
  by_cases c1 : (σ 25 7) = x1
  · rw [if_pos c1] at H
    rw [zp_icmp_eq_t (x := (σ 25 7)) (y := x1) (t := 17) zd_43_8 rfl c1]
    rw [zs_aload_n (ls := [some (.ref 17), some (.int x1)]) zd_43_17 rfl]
    rw [zs_getR (n := 119) (K := zx_pk (zK L) 119) (ρ := zR) (c := 7) (k := 1) (q := 17) (p := 25) zd_43_18 rfl rfl rfl (by decide) rfl]
    obtain ⟨r2, hr2, H⟩ := Option.bind_eq_some_iff.mp H
    rw [zp_callVv (st := [.ref 25]) (as := [.ref 25]) (rest := []) (e := 0) zd_43_21 rfl (by decide +kernel) (by decide) rfl rfl (Nat.le_of_ble_eq_true rfl) (zx_rcb_ok rfl (show 25 < 119 by decide)) (Nat.le_of_ble_eq_true rfl) rfl (by decide) (zt_Tokens_advance hr2)]
    rw [zs_iconst (z := 1) zd_43_24 (by decide)]
    have H := Option.some.inj H
    subst H
    exact zs_ireturn zd_43_25 (by decide +kernel)
  · rw [if_neg c1] at H
    rw [zp_icmp_eq_f (x := (σ 25 7)) (y := x1) (t := 17) zd_43_8 rfl c1]
    rw [zs_aload_n (ls := [some (.ref 17), some (.int x1)]) zd_43_11 rfl]
    rw [zs_iconst (z := 2) zd_43_12 (by decide)]
    obtain ⟨r3, hr3, H⟩ := Option.bind_eq_some_iff.mp H
    rw [zp_callVi (x := r3.1) (st := [.int 2, .ref 17]) (as := [.ref 17, .int 2]) (rest := []) (e := 0) zd_43_13 rfl (by decide +kernel) (by decide) rfl rfl (Nat.le_of_ble_eq_true rfl) (zx_rcb_ok rfl (show 17 < 119 by decide)) (Nat.le_of_ble_eq_true rfl) rfl (by decide) (zt_Reader_failHere hr3)]
    by_cases c4 : r3.1 = 0 ∨ r3.1 = 1
    · rw [if_pos c4] at H
      have H := Option.some.inj H
      subst H
      exact zs_ireturn zd_43_16 (zJ_bt c4)
    · rw [if_neg c4] at H
      cases H
set_option maxRecDepth 20000 in
theorem zt_Weaver_enter {a b L : Nat} {σ : zS} {τ : zT} {x1 : Int32} {x2 : Int32} {r : zS} (H : zf_Weaver_enter σ x1 x2 = some r) : zx_go 0 63 0 [some (.ref 29), some (.int x1), some (.int x2)] [] ((119, a, b), zx_pk (zK L) 119, σ, τ, zR) = some (none, ((119, a, b), zx_pk (zK L) 119, r, τ, zR)) := by
  unfold zf_Weaver_enter at H
  rw [zs_aload_n (ls := [some (.ref 29), some (.int x1), some (.int x2)]) zd_63_0 rfl]
  rw [zp_getI (n := 119) (K := zx_pk (zK L) 119) (σ := σ) (c := 10) (k := 6) (q := 29) (v := (σ 29 6)) zd_63_1 rfl rfl rfl (by decide) rfl]
  by_cases c1 : (σ 29 6) < 0
  · rw [if_pos c1] at H
    rw [zp_if_lt_t (x := (σ 29 6)) (t := 16) zd_63_4 rfl c1]
    have H := Option.some.inj H
    subst H
    exact zs_return zd_63_16 (by decide +kernel)
  · rw [if_neg c1] at H
    rw [zp_if_lt_f (x := (σ 29 6)) (t := 16) zd_63_4 rfl c1]
    rw [zs_aload_n (ls := [some (.ref 29), some (.int x1), some (.int x2)]) zd_63_7 rfl]
    rw [zp_getI (n := 119) (K := zx_pk (zK L) 119) (σ := σ) (c := 10) (k := 6) (q := 29) (v := (σ 29 6)) zd_63_8 rfl rfl rfl (by decide) rfl]
    rw [zs_bipush (z := 8) zd_63_11 (by decide)]
    by_cases c2 : (σ 29 6) < 8
    · rw [if_pos c2] at H
      rw [zp_icmp_lt_t (x := (σ 29 6)) (y := 8) (t := 17) zd_63_13 rfl c2]
      rw [zs_aload_n (ls := [some (.ref 29), some (.int x1), some (.int x2)]) zd_63_17 rfl]
      rw [zs_getR (n := 119) (K := zx_pk (zK L) 119) (ρ := zR) (c := 10) (k := 1) (q := 29) (p := 30) zd_63_18 rfl rfl rfl (by decide) rfl]
      rw [zs_aload_n (ls := [some (.ref 29), some (.int x1), some (.int x2)]) zd_63_21 rfl]
      rw [zp_getI (n := 119) (K := zx_pk (zK L) 119) (σ := σ) (c := 10) (k := 6) (q := 29) (v := (σ 29 6)) zd_63_22 rfl rfl rfl (by decide) rfl]
      rw [zs_iload_n (ls := [some (.ref 29), some (.int x1), some (.int x2)]) zd_63_25 rfl]
      by_cases c3 : 0 ≤ (σ 29 6) ∧ (σ 29 6) < 8
      · rw [if_pos c3] at H
        rw [zp_iastore (n := 119) (K := zx_pk (zK L) 119) (q := 30) (m := 8) (i := (σ 29 6)) (k := (σ 29 6).toNatClampNeg) (x := x1) (z := x1) zd_63_26 rfl ⟨by decide, by decide⟩ (zJ_in c3 rfl) rfl rfl]
        rw [zs_aload_n (ls := [some (.ref 29), some (.int x1), some (.int x2)]) zd_63_27 rfl]
        rw [zs_getR (n := 119) (K := zx_pk (zK L) 119) (ρ := zR) (c := 10) (k := 2) (q := 29) (p := 31) zd_63_28 rfl rfl rfl (by decide) rfl]
        rw [zs_aload_n (ls := [some (.ref 29), some (.int x1), some (.int x2)]) zd_63_31 rfl]
        rw [zp_getI (n := 119) (K := zx_pk (zK L) 119) (σ := (zx_up σ 30 (σ 29 6).toNatClampNeg x1)) (c := 10) (k := 6) (q := 29) (v := (σ 29 6)) zd_63_32 rfl rfl rfl (by decide) (show ((zx_up σ 30 (σ 29 6).toNatClampNeg x1) : zS) 29 6 = (σ 29 6) from ((zx_up_ne (by decide)).trans rfl))]
        rw [zs_iload_n (ls := [some (.ref 29), some (.int x1), some (.int x2)]) zd_63_35 rfl]
        by_cases c4 : 0 ≤ (σ 29 6) ∧ (σ 29 6) < 8
        · rw [if_pos c4] at H
          rw [zp_iastore (n := 119) (K := zx_pk (zK L) 119) (q := 31) (m := 8) (i := (σ 29 6)) (k := (σ 29 6).toNatClampNeg) (x := x2) (z := x2) zd_63_36 rfl ⟨by decide, by decide⟩ (zJ_in c4 rfl) rfl rfl]
          rw [zs_aload_n (ls := [some (.ref 29), some (.int x1), some (.int x2)]) zd_63_37 rfl]
          rw [zs_getR (n := 119) (K := zx_pk (zK L) 119) (ρ := zR) (c := 10) (k := 3) (q := 29) (p := 32) zd_63_38 rfl rfl rfl (by decide) rfl]
          rw [zs_aload_n (ls := [some (.ref 29), some (.int x1), some (.int x2)]) zd_63_41 rfl]
          rw [zp_getI (n := 119) (K := zx_pk (zK L) 119) (σ := (zx_up (zx_up σ 30 (σ 29 6).toNatClampNeg x1) 31 (σ 29 6).toNatClampNeg x2)) (c := 10) (k := 6) (q := 29) (v := (σ 29 6)) zd_63_42 rfl rfl rfl (by decide) (show ((zx_up (zx_up σ 30 (σ 29 6).toNatClampNeg x1) 31 (σ 29 6).toNatClampNeg x2) : zS) 29 6 = (σ 29 6) from ((zx_up_ne (by decide)).trans ((zx_up_ne (by decide)).trans rfl)))]
          rw [zs_iconst (z := 0) zd_63_45 (by decide)]
          by_cases c5 : 0 ≤ (σ 29 6) ∧ (σ 29 6) < 8
          · rw [if_pos c5] at H
            rw [zp_iastore (n := 119) (K := zx_pk (zK L) 119) (q := 32) (m := 8) (i := (σ 29 6)) (k := (σ 29 6).toNatClampNeg) (x := 0) (z := 0) zd_63_46 rfl ⟨by decide, by decide⟩ (zJ_in c5 rfl) rfl rfl]
            rw [zs_aload_n (ls := [some (.ref 29), some (.int x1), some (.int x2)]) zd_63_47 rfl]
            rw [zs_getR (n := 119) (K := zx_pk (zK L) 119) (ρ := zR) (c := 10) (k := 4) (q := 29) (p := 33) zd_63_48 rfl rfl rfl (by decide) rfl]
            rw [zs_aload_n (ls := [some (.ref 29), some (.int x1), some (.int x2)]) zd_63_51 rfl]
            rw [zp_getI (n := 119) (K := zx_pk (zK L) 119) (σ := (zx_up (zx_up (zx_up σ 30 (σ 29 6).toNatClampNeg x1) 31 (σ 29 6).toNatClampNeg x2) 32 (σ 29 6).toNatClampNeg 0)) (c := 10) (k := 6) (q := 29) (v := (σ 29 6)) zd_63_52 rfl rfl rfl (by decide) (show ((zx_up (zx_up (zx_up σ 30 (σ 29 6).toNatClampNeg x1) 31 (σ 29 6).toNatClampNeg x2) 32 (σ 29 6).toNatClampNeg 0) : zS) 29 6 = (σ 29 6) from ((zx_up_ne (by decide)).trans ((zx_up_ne (by decide)).trans ((zx_up_ne (by decide)).trans rfl))))]
            rw [zs_iconst (z := 0) zd_63_55 (by decide)]
            by_cases c6 : 0 ≤ (σ 29 6) ∧ (σ 29 6) < 8
            · rw [if_pos c6] at H
              rw [zp_iastore (n := 119) (K := zx_pk (zK L) 119) (q := 33) (m := 8) (i := (σ 29 6)) (k := (σ 29 6).toNatClampNeg) (x := 0) (z := 0) zd_63_56 rfl ⟨by decide, by decide⟩ (zJ_in c6 rfl) rfl rfl]
              rw [zs_aload_n (ls := [some (.ref 29), some (.int x1), some (.int x2)]) zd_63_57 rfl]
              rw [zs_getR (n := 119) (K := zx_pk (zK L) 119) (ρ := zR) (c := 10) (k := 5) (q := 29) (p := 34) zd_63_58 rfl rfl rfl (by decide) rfl]
              rw [zs_aload_n (ls := [some (.ref 29), some (.int x1), some (.int x2)]) zd_63_61 rfl]
              rw [zp_getI (n := 119) (K := zx_pk (zK L) 119) (σ := (zx_up (zx_up (zx_up (zx_up σ 30 (σ 29 6).toNatClampNeg x1) 31 (σ 29 6).toNatClampNeg x2) 32 (σ 29 6).toNatClampNeg 0) 33 (σ 29 6).toNatClampNeg 0)) (c := 10) (k := 6) (q := 29) (v := (σ 29 6)) zd_63_62 rfl rfl rfl (by decide) (show ((zx_up (zx_up (zx_up (zx_up σ 30 (σ 29 6).toNatClampNeg x1) 31 (σ 29 6).toNatClampNeg x2) 32 (σ 29 6).toNatClampNeg 0) 33 (σ 29 6).toNatClampNeg 0) : zS) 29 6 = (σ 29 6) from ((zx_up_ne (by decide)).trans ((zx_up_ne (by decide)).trans ((zx_up_ne (by decide)).trans ((zx_up_ne (by decide)).trans rfl)))))]
              rw [zs_aload_n (ls := [some (.ref 29), some (.int x1), some (.int x2)]) zd_63_65 rfl]
              rw [zp_getI (n := 119) (K := zx_pk (zK L) 119) (σ := (zx_up (zx_up (zx_up (zx_up σ 30 (σ 29 6).toNatClampNeg x1) 31 (σ 29 6).toNatClampNeg x2) 32 (σ 29 6).toNatClampNeg 0) 33 (σ 29 6).toNatClampNeg 0)) (c := 10) (k := 11) (q := 29) (v := (σ 29 11)) zd_63_66 rfl rfl rfl (by decide) (show ((zx_up (zx_up (zx_up (zx_up σ 30 (σ 29 6).toNatClampNeg x1) 31 (σ 29 6).toNatClampNeg x2) 32 (σ 29 6).toNatClampNeg 0) 33 (σ 29 6).toNatClampNeg 0) : zS) 29 11 = (σ 29 11) from ((zx_up_ne (by decide)).trans ((zx_up_ne (by decide)).trans ((zx_up_ne (by decide)).trans ((zx_up_ne (by decide)).trans rfl)))))]
              by_cases c7 : 0 ≤ (σ 29 6) ∧ (σ 29 6) < 8
              · rw [if_pos c7] at H
                rw [zp_iastore (n := 119) (K := zx_pk (zK L) 119) (q := 34) (m := 8) (i := (σ 29 6)) (k := (σ 29 6).toNatClampNeg) (x := (σ 29 11)) (z := (σ 29 11)) zd_63_69 rfl ⟨by decide, by decide⟩ (zJ_in c7 rfl) rfl rfl]
                rw [zs_aload_n (ls := [some (.ref 29), some (.int x1), some (.int x2)]) zd_63_70 rfl]
                rw [zs_dup (a := .ref 29) zd_63_71 rfl]
                rw [zp_getI (n := 119) (K := zx_pk (zK L) 119) (σ := (zx_up (zx_up (zx_up (zx_up (zx_up σ 30 (σ 29 6).toNatClampNeg x1) 31 (σ 29 6).toNatClampNeg x2) 32 (σ 29 6).toNatClampNeg 0) 33 (σ 29 6).toNatClampNeg 0) 34 (σ 29 6).toNatClampNeg (σ 29 11))) (c := 10) (k := 6) (q := 29) (v := (σ 29 6)) zd_63_72 rfl rfl rfl (by decide) (show ((zx_up (zx_up (zx_up (zx_up (zx_up σ 30 (σ 29 6).toNatClampNeg x1) 31 (σ 29 6).toNatClampNeg x2) 32 (σ 29 6).toNatClampNeg 0) 33 (σ 29 6).toNatClampNeg 0) 34 (σ 29 6).toNatClampNeg (σ 29 11)) : zS) 29 6 = (σ 29 6) from ((zx_up_ne (by decide)).trans ((zx_up_ne (by decide)).trans ((zx_up_ne (by decide)).trans ((zx_up_ne (by decide)).trans ((zx_up_ne (by decide)).trans rfl))))))]
                rw [zs_iconst (z := 1) zd_63_75 (by decide)]
                rw [zp_iadd (x := (σ 29 6)) (y := 1) (z := ((σ 29 6) + 1)) zd_63_76 rfl]
                rw [zs_putI (n := 119) (K := zx_pk (zK L) 119) (c := 10) (k := 6) (q := 29) (x := ((σ 29 6) + 1)) zd_63_77 rfl rfl (by decide +kernel) rfl (by decide)]
                rw [zs_iload_n (ls := [some (.ref 29), some (.int x1), some (.int x2)]) zd_63_80 rfl]
                rw [zs_iconst (z := 1) zd_63_81 (by decide)]
                by_cases c8 : ¬ x1 = 1
                · rw [if_pos c8] at H
                  rw [zp_icmp_ne_t (x := x1) (y := 1) (t := 100) zd_63_82 rfl c8]
                  rw [zs_iload_n (ls := [some (.ref 29), some (.int x1), some (.int x2)]) zd_63_100 rfl]
                  rw [zs_iconst (z := 2) zd_63_101 (by decide)]
                  by_cases c9 : ¬ x1 = 2
                  · rw [if_pos c9] at H
                    rw [zp_icmp_ne_t (x := x1) (y := 2) (t := 129) zd_63_102 rfl c9]
                    have H := Option.some.inj H
                    subst H
                    exact zs_return zd_63_129 (by decide +kernel)
                  · rw [if_neg c9] at H
                    rw [zp_icmp_ne_f (x := x1) (y := 2) (t := 129) zd_63_102 rfl c9]
                    rw [zs_aload_n (ls := [some (.ref 29), some (.int x1), some (.int x2)]) zd_63_105 rfl]
                    rw [zs_aload_n (ls := [some (.ref 29), some (.int x1), some (.int x2)]) zd_63_106 rfl]
                    rw [zs_getR (n := 119) (K := zx_pk (zK L) 119) (ρ := zR) (c := 10) (k := 0) (q := 29) (p := 4) zd_63_107 rfl rfl rfl (by decide) rfl]
                    rw [zp_getI (n := 119) (K := zx_pk (zK L) 119) (σ := (zx_up (zx_up (zx_up (zx_up (zx_up (zx_up σ 30 (σ 29 6).toNatClampNeg x1) 31 (σ 29 6).toNatClampNeg x2) 32 (σ 29 6).toNatClampNeg 0) 33 (σ 29 6).toNatClampNeg 0) 34 (σ 29 6).toNatClampNeg (σ 29 11)) 29 6 ((σ 29 6) + 1))) (c := 6) (k := 3) (q := 4) (v := (σ 4 3)) zd_63_110 rfl rfl rfl (by decide) (show ((zx_up (zx_up (zx_up (zx_up (zx_up (zx_up σ 30 (σ 29 6).toNatClampNeg x1) 31 (σ 29 6).toNatClampNeg x2) 32 (σ 29 6).toNatClampNeg 0) 33 (σ 29 6).toNatClampNeg 0) 34 (σ 29 6).toNatClampNeg (σ 29 11)) 29 6 ((σ 29 6) + 1)) : zS) 4 3 = (σ 4 3) from ((zx_up_ne (by decide)).trans ((zx_up_ne (by decide)).trans ((zx_up_ne (by decide)).trans ((zx_up_ne (by decide)).trans ((zx_up_ne (by decide)).trans ((zx_up_ne (by decide)).trans rfl)))))))]
                    rw [zs_putI (n := 119) (K := zx_pk (zK L) 119) (c := 10) (k := 12) (q := 29) (x := (σ 4 3)) zd_63_113 rfl rfl (by decide +kernel) rfl (by decide)]
                    rw [zs_aload_n (ls := [some (.ref 29), some (.int x1), some (.int x2)]) zd_63_116 rfl]
                    rw [zs_getR (n := 119) (K := zx_pk (zK L) 119) (ρ := zR) (c := 10) (k := 0) (q := 29) (p := 4) zd_63_117 rfl rfl rfl (by decide) rfl]
                    rw [zs_dup (a := .ref 4) zd_63_120 rfl]
                    rw [zp_getI (n := 119) (K := zx_pk (zK L) 119) (σ := (zx_up (zx_up (zx_up (zx_up (zx_up (zx_up (zx_up σ 30 (σ 29 6).toNatClampNeg x1) 31 (σ 29 6).toNatClampNeg x2) 32 (σ 29 6).toNatClampNeg 0) 33 (σ 29 6).toNatClampNeg 0) 34 (σ 29 6).toNatClampNeg (σ 29 11)) 29 6 ((σ 29 6) + 1)) 29 12 (σ 4 3))) (c := 6) (k := 3) (q := 4) (v := (σ 4 3)) zd_63_121 rfl rfl rfl (by decide) (show ((zx_up (zx_up (zx_up (zx_up (zx_up (zx_up (zx_up σ 30 (σ 29 6).toNatClampNeg x1) 31 (σ 29 6).toNatClampNeg x2) 32 (σ 29 6).toNatClampNeg 0) 33 (σ 29 6).toNatClampNeg 0) 34 (σ 29 6).toNatClampNeg (σ 29 11)) 29 6 ((σ 29 6) + 1)) 29 12 (σ 4 3)) : zS) 4 3 = (σ 4 3) from ((zx_up_ne (by decide)).trans ((zx_up_ne (by decide)).trans ((zx_up_ne (by decide)).trans ((zx_up_ne (by decide)).trans ((zx_up_ne (by decide)).trans ((zx_up_ne (by decide)).trans ((zx_up_ne (by decide)).trans rfl))))))))]
                    rw [zs_iconst (z := 1) zd_63_124 (by decide)]
                    rw [zp_iadd (x := (σ 4 3)) (y := 1) (z := ((σ 4 3) + 1)) zd_63_125 rfl]
                    rw [zs_putI (n := 119) (K := zx_pk (zK L) 119) (c := 6) (k := 3) (q := 4) (x := ((σ 4 3) + 1)) zd_63_126 rfl rfl (by decide +kernel) rfl (by decide)]
                    have H := Option.some.inj H
                    subst H
                    exact zs_return zd_63_129 (by decide +kernel)
                · rw [if_neg c8] at H
                  rw [zp_icmp_ne_f (x := x1) (y := 1) (t := 100) zd_63_82 rfl c8]
                  rw [zs_aload_n (ls := [some (.ref 29), some (.int x1), some (.int x2)]) zd_63_85 rfl]
                  rw [zs_dup (a := .ref 29) zd_63_86 rfl]
                  rw [zp_getI (n := 119) (K := zx_pk (zK L) 119) (σ := (zx_up (zx_up (zx_up (zx_up (zx_up (zx_up σ 30 (σ 29 6).toNatClampNeg x1) 31 (σ 29 6).toNatClampNeg x2) 32 (σ 29 6).toNatClampNeg 0) 33 (σ 29 6).toNatClampNeg 0) 34 (σ 29 6).toNatClampNeg (σ 29 11)) 29 6 ((σ 29 6) + 1))) (c := 10) (k := 11) (q := 29) (v := (σ 29 11)) zd_63_87 rfl rfl rfl (by decide) (show ((zx_up (zx_up (zx_up (zx_up (zx_up (zx_up σ 30 (σ 29 6).toNatClampNeg x1) 31 (σ 29 6).toNatClampNeg x2) 32 (σ 29 6).toNatClampNeg 0) 33 (σ 29 6).toNatClampNeg 0) 34 (σ 29 6).toNatClampNeg (σ 29 11)) 29 6 ((σ 29 6) + 1)) : zS) 29 11 = (σ 29 11) from ((zx_up_nj (by decide)).trans ((zx_up_ne (by decide)).trans ((zx_up_ne (by decide)).trans ((zx_up_ne (by decide)).trans ((zx_up_ne (by decide)).trans ((zx_up_ne (by decide)).trans rfl)))))))]
                  rw [zs_iconst (z := 1) zd_63_90 (by decide)]
                  rw [zs_iload_n (ls := [some (.ref 29), some (.int x1), some (.int x2)]) zd_63_91 rfl]
                  rw [zp_ishl (x := 1) (y := x2) (z := (zJ_shl 1 x2)) zd_63_92 rfl]
                  rw [zp_ior (x := (σ 29 11)) (y := (zJ_shl 1 x2)) (z := ((σ 29 11) ||| (zJ_shl 1 x2))) zd_63_93 rfl]
                  rw [zs_putI (n := 119) (K := zx_pk (zK L) 119) (c := 10) (k := 11) (q := 29) (x := ((σ 29 11) ||| (zJ_shl 1 x2))) zd_63_94 rfl rfl (by decide +kernel) rfl (by decide)]
                  rw [zs_goto (t := 129) zd_63_97 rfl]
                  have H := Option.some.inj H
                  subst H
                  exact zs_return zd_63_129 (by decide +kernel)
              · rw [if_neg c7] at H
                cases H
            · rw [if_neg c6] at H
              cases H
          · rw [if_neg c5] at H
            cases H
        · rw [if_neg c4] at H
          cases H
      · rw [if_neg c3] at H
        cases H
    · rw [if_neg c2] at H
      rw [zp_icmp_lt_f (x := (σ 29 6)) (y := 8) (t := 17) zd_63_13 rfl c2]
      have H := Option.some.inj H
      subst H
      exact zs_return zd_63_16 (by decide +kernel)
set_option maxRecDepth 20000 in
theorem zt_Reader_openBlock_33 {a b L : Nat} {σ : zS} {τ : zT} {v1 : Int32} {v2 : Int32} {r : zS × zT} (H : zb_Reader_openBlock_33 σ τ v1 v2 = some r) : zx_go 2 62 33 [some (.ref 17), some (.int v1), some (.int v2)] [] ((119, a, b), zx_pk (zK L) 119, σ, τ, zR) = some (none, ((119, a, b), zx_pk (zK L) 119, r.1, r.2, zR)) := by
  unfold zb_Reader_openBlock_33 at H
  rw [zs_aload_n (ls := [some (.ref 17), some (.int v1), some (.int v2)]) zd_62_33 rfl]
  rw [zs_bipush (z := 123) zd_62_34 (by decide)]
  obtain ⟨r2, hr2, H⟩ := Option.bind_eq_some_iff.mp H
  rw [zp_callVi (x := r2.1) (st := [.int 123, .ref 17]) (as := [.ref 17, .int 123]) (rest := []) (e := 1) zd_62_36 rfl (by decide +kernel) (by decide) rfl rfl (Nat.le_of_ble_eq_true rfl) (zx_rcb_ok rfl (show 17 < 119 by decide)) (Nat.le_of_ble_eq_true rfl) rfl (by decide) (zt_Reader_expect hr2)]
  by_cases c3 : r2.1 = 0
  · rw [if_pos c3] at H
    rw [zp_if_eq_t (x := r2.1) (t := 51) zd_62_39 rfl c3]
    have H := Option.some.inj H
    subst H
    exact zs_return zd_62_51 (by decide +kernel)
  · rw [if_neg c3] at H
    rw [zp_if_eq_f (x := r2.1) (t := 51) zd_62_39 rfl c3]
    rw [zs_aload_n (ls := [some (.ref 17), some (.int v1), some (.int v2)]) zd_62_42 rfl]
    rw [zs_getR (n := 119) (K := zx_pk (zK L) 119) (ρ := zR) (c := 7) (k := 3) (q := 17) (p := 29) zd_62_43 rfl rfl rfl (by decide) rfl]
    rw [zs_iload_n (ls := [some (.ref 17), some (.int v1), some (.int v2)]) zd_62_46 rfl]
    rw [zs_iload_n (ls := [some (.ref 17), some (.int v1), some (.int v2)]) zd_62_47 rfl]
    obtain ⟨r4, hr4, H⟩ := Option.bind_eq_some_iff.mp H
    rw [zp_callVv (st := [.int v2, .int v1, .ref 29]) (as := [.ref 29, .int v1, .int v2]) (rest := []) (e := 0) zd_62_48 rfl (by decide +kernel) (by decide) rfl rfl (Nat.le_of_ble_eq_true rfl) (zx_rcb_ok rfl (show 29 < 119 by decide)) (Nat.le_of_ble_eq_true rfl) rfl (by decide) (zt_Weaver_enter hr4)]
    have H := Option.some.inj H
    subst H
    exact zs_return zd_62_51 (by decide +kernel)
set_option maxRecDepth 20000 in
theorem zt_Reader_openBlock {a b L : Nat} {σ : zS} {τ : zT} {x1 : Int32} {x2 : Int32} {r : zS × zT} (H : zf_Reader_openBlock σ τ x1 x2 = some r) : zx_go 2 62 0 [some (.ref 17), some (.int x1), some (.int x2)] [] ((119, a, b), zx_pk (zK L) 119, σ, τ, zR) = some (none, ((119, a, b), zx_pk (zK L) 119, r.1, r.2, zR)) := by
  unfold zf_Reader_openBlock at H
  rw [zs_aload_n (ls := [some (.ref 17), some (.int x1), some (.int x2)]) zd_62_0 rfl]
  rw [zs_getR (n := 119) (K := zx_pk (zK L) 119) (ρ := zR) (c := 7) (k := 1) (q := 17) (p := 25) zd_62_1 rfl rfl rfl (by decide) rfl]
  rw [zp_getI (n := 119) (K := zx_pk (zK L) 119) (σ := σ) (c := 9) (k := 7) (q := 25) (v := (σ 25 7)) zd_62_4 rfl rfl rfl (by decide) rfl]
  rw [zs_bipush (z := 123) zd_62_7 (by decide)]
  by_cases c1 : ¬ (σ 25 7) = 123
  · rw [if_pos c1] at H
    rw [zp_icmp_ne_t (x := (σ 25 7)) (y := 123) (t := 33) zd_62_9 rfl c1]
    exact zt_Reader_openBlock_33  H
  · rw [if_neg c1] at H
    rw [zp_icmp_ne_f (x := (σ 25 7)) (y := 123) (t := 33) zd_62_9 rfl c1]
    rw [zs_aload_n (ls := [some (.ref 17), some (.int x1), some (.int x2)]) zd_62_12 rfl]
    rw [zs_getR (n := 119) (K := zx_pk (zK L) 119) (ρ := zR) (c := 7) (k := 3) (q := 17) (p := 29) zd_62_13 rfl rfl rfl (by decide) rfl]
    rw [zp_getI (n := 119) (K := zx_pk (zK L) 119) (σ := σ) (c := 10) (k := 6) (q := 29) (v := (σ 29 6)) zd_62_16 rfl rfl rfl (by decide) rfl]
    rw [zs_bipush (z := 8) zd_62_19 (by decide)]
    by_cases c5 : (σ 29 6) < 8
    · rw [if_pos c5] at H
      rw [zp_icmp_lt_t (x := (σ 29 6)) (y := 8) (t := 33) zd_62_21 rfl c5]
      exact zt_Reader_openBlock_33  H
    · rw [if_neg c5] at H
      rw [zp_icmp_lt_f (x := (σ 29 6)) (y := 8) (t := 33) zd_62_21 rfl c5]
      rw [zs_aload_n (ls := [some (.ref 17), some (.int x1), some (.int x2)]) zd_62_24 rfl]
      rw [zs_iconst (z := 4) zd_62_25 (by decide)]
      obtain ⟨r6, hr6, H⟩ := Option.bind_eq_some_iff.mp H
      rw [zp_callVi (x := r6.1) (st := [.int 4, .ref 17]) (as := [.ref 17, .int 4]) (rest := []) (e := 0) zd_62_26 rfl (by decide +kernel) (by decide) rfl rfl (Nat.le_of_ble_eq_true rfl) (zx_rcb_ok rfl (show 17 < 119 by decide)) (Nat.le_of_ble_eq_true rfl) rfl (by decide) (zt_Reader_failHere hr6)]
      rw [zs_pop (a := .int r6.1) zd_62_29 rfl]
      rw [zs_goto (t := 51) zd_62_30 rfl]
      have H := Option.some.inj H
      subst H
      exact zs_return zd_62_51 (by decide +kernel)
set_option maxRecDepth 20000 in
theorem zt_Reader_tellThread {a b L N : Nat} {σ : zS} {τ : zT} {r : zS × zT} (H : zf_Reader_tellThread N σ τ = some r) : zx_go 3 80 0 [some (.ref 17)] [] ((119, a, b), zx_pk (zK L) 119, σ, τ, zR) = some (none, ((119, a, b), zx_pk (zK L) 119, r.1, r.2, zR)) := by
  unfold zf_Reader_tellThread at H
  rw [zs_aload_n (ls := [some (.ref 17)]) zd_80_0 rfl]
  rw [zs_getR (n := 119) (K := zx_pk (zK L) 119) (ρ := zR) (c := 7) (k := 1) (q := 17) (p := 25) zd_80_1 rfl rfl rfl (by decide) rfl]
  obtain ⟨r1, hr1, H⟩ := Option.bind_eq_some_iff.mp H
  rw [zp_callVv (st := [.ref 25]) (as := [.ref 25]) (rest := []) (e := 0) zd_80_4 rfl (by decide +kernel) (by decide) rfl rfl (Nat.le_of_ble_eq_true rfl) (zx_rcb_ok rfl (show 25 < 119 by decide)) (Nat.le_of_ble_eq_true rfl) rfl (by decide) (zt_Tokens_advance hr1)]
  rw [zs_aload_n (ls := [some (.ref 17)]) zd_80_7 rfl]
  rw [zs_iconst (z := 2) zd_80_8 (by decide)]
  rw [zs_aload_n (ls := [some (.ref 17)]) zd_80_9 rfl]
  rw [zs_getR (n := 119) (K := zx_pk (zK L) 119) (ρ := zR) (c := 7) (k := 0) (q := 17) (p := 4) zd_80_10 rfl rfl rfl (by decide) rfl]
  rw [zp_getI (n := 119) (K := zx_pk (zK L) 119) (σ := r1.1) (c := 6) (k := 2) (q := 4) (v := (r1.1 4 2)) zd_80_13 rfl rfl rfl (by decide) rfl]
  rw [zs_iconst (z := 4) zd_80_16 (by decide)]
  obtain ⟨r2, hr2, H⟩ := Option.bind_eq_some_iff.mp H
  rw [zp_callVi (x := r2.1) (st := [.int 4, .int (r1.1 4 2), .int 2, .ref 17]) (as := [.ref 17, .int 2, .int (r1.1 4 2), .int 4]) (rest := []) (e := 1) zd_80_17 rfl (by decide +kernel) (by decide) rfl rfl (Nat.le_of_ble_eq_true rfl) (zx_rcb_ok rfl (show 17 < 119 by decide)) (Nat.le_of_ble_eq_true rfl) rfl (by decide) (zt_Reader_tellName hr2)]
  by_cases c3 : r2.1 = 0
  · rw [if_pos c3] at H
    rw [zp_if_eq_t (x := r2.1) (t := 63) zd_80_20 rfl c3]
    have H := Option.some.inj H
    subst H
    exact zs_return zd_80_63 (by decide +kernel)
  · rw [if_neg c3] at H
    rw [zp_if_eq_f (x := r2.1) (t := 63) zd_80_20 rfl c3]
    rw [zs_aload_n (ls := [some (.ref 17)]) zd_80_23 rfl]
    rw [zs_getR (n := 119) (K := zx_pk (zK L) 119) (ρ := zR) (c := 7) (k := 2) (q := 17) (p := 18) zd_80_24 rfl rfl rfl (by decide) rfl]
    obtain ⟨r4, hr4, H⟩ := Option.bind_eq_some_iff.mp H
    rw [zp_callVv (st := [.ref 18]) (as := [.ref 18]) (rest := []) (e := 0) zd_80_27 rfl (by decide +kernel) (by decide) rfl rfl (Nat.le_of_ble_eq_true rfl) (zx_rcb_ok rfl (show 18 < 119 by decide)) (Nat.le_of_ble_eq_true rfl) rfl (by decide) (zt_Names_forgetLocals hr4)]
    rw [zs_aload_n (ls := [some (.ref 17)]) zd_80_30 rfl]
    rw [zs_getR (n := 119) (K := zx_pk (zK L) 119) (ρ := zR) (c := 7) (k := 3) (q := 17) (p := 29) zd_80_31 rfl rfl rfl (by decide) rfl]
    rw [zs_aload_n (ls := [some (.ref 17)]) zd_80_34 rfl]
    rw [zs_getR (n := 119) (K := zx_pk (zK L) 119) (ρ := zR) (c := 7) (k := 0) (q := 17) (p := 4) zd_80_35 rfl rfl rfl (by decide) rfl]
    rw [zp_getI (n := 119) (K := zx_pk (zK L) 119) (σ := r4) (c := 6) (k := 2) (q := 4) (v := (r4 4 2)) zd_80_38 rfl rfl rfl (by decide) rfl]
    obtain ⟨r5, hr5, H⟩ := Option.bind_eq_some_iff.mp H
    rw [zp_callVv (st := [.int (r4 4 2), .ref 29]) (as := [.ref 29, .int (r4 4 2)]) (rest := []) (e := 0) zd_80_41 rfl (by decide +kernel) (by decide) rfl rfl (Nat.le_of_ble_eq_true rfl) (zx_rcb_ok rfl (show 29 < 119 by decide)) (Nat.le_of_ble_eq_true rfl) rfl (by decide) (zt_Weaver_beginThread hr5)]
    rw [zs_aload_n (ls := [some (.ref 17)]) zd_80_44 rfl]
    rw [zs_getR (n := 119) (K := zx_pk (zK L) 119) (ρ := zR) (c := 7) (k := 0) (q := 17) (p := 4) zd_80_45 rfl rfl rfl (by decide) rfl]
    rw [zs_dup (a := .ref 4) zd_80_48 rfl]
    rw [zp_getI (n := 119) (K := zx_pk (zK L) 119) (σ := r5) (c := 6) (k := 2) (q := 4) (v := (r5 4 2)) zd_80_49 rfl rfl rfl (by decide) rfl]
    rw [zs_iconst (z := 1) zd_80_52 (by decide)]
    rw [zp_iadd (x := (r5 4 2)) (y := 1) (z := ((r5 4 2) + 1)) zd_80_53 rfl]
    rw [zs_putI (n := 119) (K := zx_pk (zK L) 119) (c := 6) (k := 2) (q := 4) (x := ((r5 4 2) + 1)) zd_80_54 rfl rfl (by decide +kernel) rfl (by decide)]
    rw [zs_aload_n (ls := [some (.ref 17)]) zd_80_57 rfl]
    rw [zs_iconst (z := 0) zd_80_58 (by decide)]
    rw [zs_iconst (z := (-1)) zd_80_59 (by decide)]
    obtain ⟨r6, hr6, H⟩ := Option.bind_eq_some_iff.mp H
    rw [zp_callVv (st := [.int (-1), .int 0, .ref 17]) (as := [.ref 17, .int 0, .int (-1)]) (rest := []) (e := 2) zd_80_60 rfl (by decide +kernel) (by decide) rfl rfl (Nat.le_of_ble_eq_true rfl) (zx_rcb_ok rfl (show 17 < 119 by decide)) (Nat.le_of_ble_eq_true rfl) rfl (by decide) (zt_Reader_openBlock hr6)]
    have H := Option.some.inj H
    subst H
    exact zs_return zd_80_63 (by decide +kernel)
set_option maxRecDepth 20000 in
theorem zt_Reader_tellLock {a b L N : Nat} {σ : zS} {τ : zT} {r : zS × zT} (H : zf_Reader_tellLock N σ τ = some r) : zx_go 2 79 0 [some (.ref 17)] [] ((119, a, b), zx_pk (zK L) 119, σ, τ, zR) = some (none, ((119, a, b), zx_pk (zK L) 119, r.1, r.2, zR)) := by
  unfold zf_Reader_tellLock at H
  rw [zs_aload_n (ls := [some (.ref 17)]) zd_79_0 rfl]
  rw [zs_getR (n := 119) (K := zx_pk (zK L) 119) (ρ := zR) (c := 7) (k := 1) (q := 17) (p := 25) zd_79_1 rfl rfl rfl (by decide) rfl]
  obtain ⟨r1, hr1, H⟩ := Option.bind_eq_some_iff.mp H
  rw [zp_callVv (st := [.ref 25]) (as := [.ref 25]) (rest := []) (e := 0) zd_79_4 rfl (by decide +kernel) (by decide) rfl rfl (Nat.le_of_ble_eq_true rfl) (zx_rcb_ok rfl (show 25 < 119 by decide)) (Nat.le_of_ble_eq_true rfl) rfl (by decide) (zt_Tokens_advance hr1)]
  rw [zs_aload_n (ls := [some (.ref 17)]) zd_79_7 rfl]
  rw [zs_iconst (z := 1) zd_79_8 (by decide)]
  rw [zs_aload_n (ls := [some (.ref 17)]) zd_79_9 rfl]
  rw [zs_getR (n := 119) (K := zx_pk (zK L) 119) (ρ := zR) (c := 7) (k := 0) (q := 17) (p := 4) zd_79_10 rfl rfl rfl (by decide) rfl]
  rw [zp_getI (n := 119) (K := zx_pk (zK L) 119) (σ := r1.1) (c := 6) (k := 1) (q := 4) (v := (r1.1 4 1)) zd_79_13 rfl rfl rfl (by decide) rfl]
  rw [zs_iconst (z := 4) zd_79_16 (by decide)]
  obtain ⟨r2, hr2, H⟩ := Option.bind_eq_some_iff.mp H
  rw [zp_callVi (x := r2.1) (st := [.int 4, .int (r1.1 4 1), .int 1, .ref 17]) (as := [.ref 17, .int 1, .int (r1.1 4 1), .int 4]) (rest := []) (e := 1) zd_79_17 rfl (by decide +kernel) (by decide) rfl rfl (Nat.le_of_ble_eq_true rfl) (zx_rcb_ok rfl (show 17 < 119 by decide)) (Nat.le_of_ble_eq_true rfl) rfl (by decide) (zt_Reader_tellName hr2)]
  by_cases c3 : r2.1 = 0
  · rw [if_pos c3] at H
    rw [zp_if_eq_t (x := r2.1) (t := 45) zd_79_20 rfl c3]
    have H := Option.some.inj H
    subst H
    exact zs_return zd_79_45 (by decide +kernel)
  · rw [if_neg c3] at H
    rw [zp_if_eq_f (x := r2.1) (t := 45) zd_79_20 rfl c3]
    rw [zs_aload_n (ls := [some (.ref 17)]) zd_79_23 rfl]
    rw [zs_bipush (z := 59) zd_79_24 (by decide)]
    obtain ⟨r4, hr4, H⟩ := Option.bind_eq_some_iff.mp H
    rw [zp_callVi (x := r4.1) (st := [.int 59, .ref 17]) (as := [.ref 17, .int 59]) (rest := []) (e := 1) zd_79_26 rfl (by decide +kernel) (by decide) rfl rfl (Nat.le_of_ble_eq_true rfl) (zx_rcb_ok rfl (show 17 < 119 by decide)) (Nat.le_of_ble_eq_true rfl) rfl (by decide) (zt_Reader_expect hr4)]
    by_cases c5 : r4.1 = 0
    · rw [if_pos c5] at H
      rw [zp_if_eq_t (x := r4.1) (t := 45) zd_79_29 rfl c5]
      have H := Option.some.inj H
      subst H
      exact zs_return zd_79_45 (by decide +kernel)
    · rw [if_neg c5] at H
      rw [zp_if_eq_f (x := r4.1) (t := 45) zd_79_29 rfl c5]
      rw [zs_aload_n (ls := [some (.ref 17)]) zd_79_32 rfl]
      rw [zs_getR (n := 119) (K := zx_pk (zK L) 119) (ρ := zR) (c := 7) (k := 0) (q := 17) (p := 4) zd_79_33 rfl rfl rfl (by decide) rfl]
      rw [zs_dup (a := .ref 4) zd_79_36 rfl]
      rw [zp_getI (n := 119) (K := zx_pk (zK L) 119) (σ := r4.2.1) (c := 6) (k := 1) (q := 4) (v := (r4.2.1 4 1)) zd_79_37 rfl rfl rfl (by decide) rfl]
      rw [zs_iconst (z := 1) zd_79_40 (by decide)]
      rw [zp_iadd (x := (r4.2.1 4 1)) (y := 1) (z := ((r4.2.1 4 1) + 1)) zd_79_41 rfl]
      rw [zs_putI (n := 119) (K := zx_pk (zK L) 119) (c := 6) (k := 1) (q := 4) (x := ((r4.2.1 4 1) + 1)) zd_79_42 rfl rfl (by decide +kernel) rfl (by decide)]
      have H := Option.some.inj H
      subst H
      exact zs_return zd_79_45 (by decide +kernel)
set_option maxRecDepth 20000 in
theorem zt_Program_addField_36 {a b L : Nat} {σ : zS} {τ : zT} {o1 : Option Value} {o2 : Option Value} {r : zS} (H : zb_Program_addField_36 σ = some r) : zx_go 0 78 36 [some (.ref 4), o1, o2] [] ((119, a, b), zx_pk (zK L) 119, σ, τ, zR) = some (none, ((119, a, b), zx_pk (zK L) 119, r, τ, zR)) := by
  unfold zb_Program_addField_36 at H
  rw [zs_aload_n (ls := [some (.ref 4), o1, o2]) zd_78_36 rfl]
  rw [zs_dup (a := .ref 4) zd_78_37 rfl]
  rw [zp_getI (n := 119) (K := zx_pk (zK L) 119) (σ := σ) (c := 6) (k := 0) (q := 4) (v := (σ 4 0)) zd_78_38 rfl rfl rfl (by decide) rfl]
  rw [zs_iconst (z := 1) zd_78_41 (by decide)]
  rw [zp_iadd (x := (σ 4 0)) (y := 1) (z := ((σ 4 0) + 1)) zd_78_42 rfl]
  rw [zs_putI (n := 119) (K := zx_pk (zK L) 119) (c := 6) (k := 0) (q := 4) (x := ((σ 4 0) + 1)) zd_78_43 rfl rfl (by decide +kernel) rfl (by decide)]
  have H := Option.some.inj H
  subst H
  exact zs_return zd_78_46 (by decide +kernel)
set_option maxRecDepth 20000 in
theorem zt_Program_addField {a b L : Nat} {σ : zS} {τ : zT} {x1 : Int32} {x2 : Int32} {r : zS} (H : zf_Program_addField σ x1 x2 = some r) : zx_go 0 78 0 [some (.ref 4), some (.int x1), some (.int x2)] [] ((119, a, b), zx_pk (zK L) 119, σ, τ, zR) = some (none, ((119, a, b), zx_pk (zK L) 119, r, τ, zR)) := by
  unfold zf_Program_addField at H
  rw [zs_aload_n (ls := [some (.ref 4), some (.int x1), some (.int x2)]) zd_78_0 rfl]
  rw [zs_dup (a := .ref 4) zd_78_1 rfl]
  rw [zp_getI (n := 119) (K := zx_pk (zK L) 119) (σ := σ) (c := 6) (k := 5) (q := 4) (v := (σ 4 5)) zd_78_2 rfl rfl rfl (by decide) rfl]
  rw [zs_iload_n (ls := [some (.ref 4), some (.int x1), some (.int x2)]) zd_78_5 rfl]
  rw [zs_iconst (z := 3) zd_78_6 (by decide)]
  rw [zs_aload_n (ls := [some (.ref 4), some (.int x1), some (.int x2)]) zd_78_7 rfl]
  rw [zp_getI (n := 119) (K := zx_pk (zK L) 119) (σ := σ) (c := 6) (k := 0) (q := 4) (v := (σ 4 0)) zd_78_8 rfl rfl rfl (by decide) rfl]
  rw [zp_imul (x := 3) (y := (σ 4 0)) (z := (3 * (σ 4 0))) zd_78_11 rfl]
  rw [zp_ishl (x := x1) (y := (3 * (σ 4 0))) (z := (zJ_shl x1 (3 * (σ 4 0)))) zd_78_12 rfl]
  rw [zp_ior (x := (σ 4 5)) (y := (zJ_shl x1 (3 * (σ 4 0)))) (z := ((σ 4 5) ||| (zJ_shl x1 (3 * (σ 4 0))))) zd_78_13 rfl]
  rw [zs_putI (n := 119) (K := zx_pk (zK L) 119) (c := 6) (k := 5) (q := 4) (x := ((σ 4 5) ||| (zJ_shl x1 (3 * (σ 4 0))))) zd_78_14 rfl rfl (by decide +kernel) rfl (by decide)]
  rw [zs_iload_n (ls := [some (.ref 4), some (.int x1), some (.int x2)]) zd_78_17 rfl]
  by_cases c1 : x2 = 0
  · rw [if_pos c1] at H
    rw [zp_if_eq_t (x := x2) (t := 36) zd_78_18 rfl c1]
    exact zt_Program_addField_36  H
  · rw [if_neg c1] at H
    rw [zp_if_eq_f (x := x2) (t := 36) zd_78_18 rfl c1]
    rw [zs_aload_n (ls := [some (.ref 4), some (.int x1), some (.int x2)]) zd_78_21 rfl]
    rw [zs_dup (a := .ref 4) zd_78_22 rfl]
    rw [zp_getI (n := 119) (K := zx_pk (zK L) 119) (σ := (zx_up σ 4 5 ((σ 4 5) ||| (zJ_shl x1 (3 * (σ 4 0)))))) (c := 6) (k := 6) (q := 4) (v := (σ 4 6)) zd_78_23 rfl rfl rfl (by decide) (show ((zx_up σ 4 5 ((σ 4 5) ||| (zJ_shl x1 (3 * (σ 4 0))))) : zS) 4 6 = (σ 4 6) from ((zx_up_nj (by decide)).trans rfl))]
    rw [zs_iconst (z := 1) zd_78_26 (by decide)]
    rw [zs_aload_n (ls := [some (.ref 4), some (.int x1), some (.int x2)]) zd_78_27 rfl]
    rw [zp_getI (n := 119) (K := zx_pk (zK L) 119) (σ := (zx_up σ 4 5 ((σ 4 5) ||| (zJ_shl x1 (3 * (σ 4 0)))))) (c := 6) (k := 0) (q := 4) (v := (σ 4 0)) zd_78_28 rfl rfl rfl (by decide) (show ((zx_up σ 4 5 ((σ 4 5) ||| (zJ_shl x1 (3 * (σ 4 0))))) : zS) 4 0 = (σ 4 0) from ((zx_up_nj (by decide)).trans rfl))]
    rw [zp_ishl (x := 1) (y := (σ 4 0)) (z := (zJ_shl 1 (σ 4 0))) zd_78_31 rfl]
    rw [zp_ior (x := (σ 4 6)) (y := (zJ_shl 1 (σ 4 0))) (z := ((σ 4 6) ||| (zJ_shl 1 (σ 4 0)))) zd_78_32 rfl]
    rw [zs_putI (n := 119) (K := zx_pk (zK L) 119) (c := 6) (k := 6) (q := 4) (x := ((σ 4 6) ||| (zJ_shl 1 (σ 4 0)))) zd_78_33 rfl rfl (by decide +kernel) rfl (by decide)]
    exact zt_Program_addField_36  H
set_option maxRecDepth 20000 in
theorem zt_Reader_tellField_64 {a b L N : Nat} {σ : zS} {τ : zT} {v1 : Int32} {v2 : Int32} {r : zS × zT} (H : zb_Reader_tellField_64 N σ τ v1 v2 = some r) : zx_go 2 75 64 [some (.ref 17), some (.int v1), some (.int v2)] [] ((119, a, b), zx_pk (zK L) 119, σ, τ, zR) = some (none, ((119, a, b), zx_pk (zK L) 119, r.1, r.2, zR)) := by
  unfold zb_Reader_tellField_64 at H
  rw [zs_aload_n (ls := [some (.ref 17), some (.int v1), some (.int v2)]) zd_75_64 rfl]
  rw [zs_bipush (z := 59) zd_75_65 (by decide)]
  obtain ⟨r5, hr5, H⟩ := Option.bind_eq_some_iff.mp H
  rw [zp_callVi (x := r5.1) (st := [.int 59, .ref 17]) (as := [.ref 17, .int 59]) (rest := []) (e := 1) zd_75_67 rfl (by decide +kernel) (by decide) rfl rfl (Nat.le_of_ble_eq_true rfl) (zx_rcb_ok rfl (show 17 < 119 by decide)) (Nat.le_of_ble_eq_true rfl) rfl (by decide) (zt_Reader_expect hr5)]
  by_cases c6 : r5.1 = 0
  · rw [if_pos c6] at H
    rw [zp_if_eq_t (x := r5.1) (t := 82) zd_75_70 rfl c6]
    have H := Option.some.inj H
    subst H
    exact zs_return zd_75_82 (by decide +kernel)
  · rw [if_neg c6] at H
    rw [zp_if_eq_f (x := r5.1) (t := 82) zd_75_70 rfl c6]
    rw [zs_aload_n (ls := [some (.ref 17), some (.int v1), some (.int v2)]) zd_75_73 rfl]
    rw [zs_getR (n := 119) (K := zx_pk (zK L) 119) (ρ := zR) (c := 7) (k := 0) (q := 17) (p := 4) zd_75_74 rfl rfl rfl (by decide) rfl]
    rw [zs_iload_n (ls := [some (.ref 17), some (.int v1), some (.int v2)]) zd_75_77 rfl]
    rw [zs_iload_n (ls := [some (.ref 17), some (.int v1), some (.int v2)]) zd_75_78 rfl]
    obtain ⟨r7, hr7, H⟩ := Option.bind_eq_some_iff.mp H
    rw [zp_callVv (st := [.int v1, .int v2, .ref 4]) (as := [.ref 4, .int v2, .int v1]) (rest := []) (e := 0) zd_75_79 rfl (by decide +kernel) (by decide) rfl rfl (Nat.le_of_ble_eq_true rfl) (zx_rcb_ok rfl (show 4 < 119 by decide)) (Nat.le_of_ble_eq_true rfl) rfl (by decide) (zt_Program_addField hr7)]
    have H := Option.some.inj H
    subst H
    exact zs_return zd_75_82 (by decide +kernel)
set_option maxRecDepth 20000 in
theorem zt_Reader_tellField {a b L N : Nat} {σ : zS} {τ : zT} {x1 : Int32} {r : zS × zT} (H : zf_Reader_tellField N σ τ x1 = some r) : zx_go 2 75 0 [some (.ref 17), some (.int x1), none] [] ((119, a, b), zx_pk (zK L) 119, σ, τ, zR) = some (none, ((119, a, b), zx_pk (zK L) 119, r.1, r.2, zR)) := by
  unfold zf_Reader_tellField at H
  rw [zs_aload_n (ls := [some (.ref 17), some (.int x1), none]) zd_75_0 rfl]
  rw [zs_getR (n := 119) (K := zx_pk (zK L) 119) (ρ := zR) (c := 7) (k := 1) (q := 17) (p := 25) zd_75_1 rfl rfl rfl (by decide) rfl]
  obtain ⟨r1, hr1, H⟩ := Option.bind_eq_some_iff.mp H
  rw [zp_callVv (st := [.ref 25]) (as := [.ref 25]) (rest := []) (e := 0) zd_75_4 rfl (by decide +kernel) (by decide) rfl rfl (Nat.le_of_ble_eq_true rfl) (zx_rcb_ok rfl (show 25 < 119 by decide)) (Nat.le_of_ble_eq_true rfl) rfl (by decide) (zt_Tokens_advance hr1)]
  rw [zs_aload_n (ls := [some (.ref 17), some (.int x1), none]) zd_75_7 rfl]
  rw [zs_iconst (z := 0) zd_75_8 (by decide)]
  rw [zs_aload_n (ls := [some (.ref 17), some (.int x1), none]) zd_75_9 rfl]
  rw [zs_getR (n := 119) (K := zx_pk (zK L) 119) (ρ := zR) (c := 7) (k := 0) (q := 17) (p := 4) zd_75_10 rfl rfl rfl (by decide) rfl]
  rw [zp_getI (n := 119) (K := zx_pk (zK L) 119) (σ := r1.1) (c := 6) (k := 0) (q := 4) (v := (r1.1 4 0)) zd_75_13 rfl rfl rfl (by decide) rfl]
  rw [zs_bipush (z := 6) zd_75_16 (by decide)]
  obtain ⟨r2, hr2, H⟩ := Option.bind_eq_some_iff.mp H
  rw [zp_callVi (x := r2.1) (st := [.int 6, .int (r1.1 4 0), .int 0, .ref 17]) (as := [.ref 17, .int 0, .int (r1.1 4 0), .int 6]) (rest := []) (e := 1) zd_75_18 rfl (by decide +kernel) (by decide) rfl rfl (Nat.le_of_ble_eq_true rfl) (zx_rcb_ok rfl (show 17 < 119 by decide)) (Nat.le_of_ble_eq_true rfl) rfl (by decide) (zt_Reader_tellName hr2)]
  by_cases c3 : ¬ r2.1 = 0
  · rw [if_pos c3] at H
    rw [zp_if_ne_t (x := r2.1) (t := 25) zd_75_21 rfl c3]
    rw [zs_iconst (z := 0) zd_75_25 (by decide)]
    rw [zs_istore_n (x := 0) (ls' := [some (.ref 17), some (.int x1), some (.int 0)]) zd_75_26 (Nat.le_of_ble_eq_true rfl) rfl]
    rw [zs_aload_n (ls := [some (.ref 17), some (.int x1), some (.int 0)]) zd_75_27 rfl]
    rw [zs_getR (n := 119) (K := zx_pk (zK L) 119) (ρ := zR) (c := 7) (k := 1) (q := 17) (p := 25) zd_75_28 rfl rfl rfl (by decide) rfl]
    rw [zp_getI (n := 119) (K := zx_pk (zK L) 119) (σ := r2.2.1) (c := 9) (k := 7) (q := 25) (v := (r2.2.1 25 7)) zd_75_31 rfl rfl rfl (by decide) rfl]
    rw [zs_bipush (z := 61) zd_75_34 (by decide)]
    by_cases c4 : ¬ (r2.2.1 25 7) = 61
    · rw [if_pos c4] at H
      rw [zp_icmp_ne_t (x := (r2.2.1 25 7)) (y := 61) (t := 64) zd_75_36 rfl c4]
      exact zt_Reader_tellField_64  H
    · rw [if_neg c4] at H
      rw [zp_icmp_ne_f (x := (r2.2.1 25 7)) (y := 61) (t := 64) zd_75_36 rfl c4]
      rw [zs_aload_n (ls := [some (.ref 17), some (.int x1), some (.int 0)]) zd_75_39 rfl]
      rw [zs_getR (n := 119) (K := zx_pk (zK L) 119) (ρ := zR) (c := 7) (k := 1) (q := 17) (p := 25) zd_75_40 rfl rfl rfl (by decide) rfl]
      obtain ⟨r8, hr8, H⟩ := Option.bind_eq_some_iff.mp H
      rw [zp_callVv (st := [.ref 25]) (as := [.ref 25]) (rest := []) (e := 0) zd_75_43 rfl (by decide +kernel) (by decide) rfl rfl (Nat.le_of_ble_eq_true rfl) (zx_rcb_ok rfl (show 25 < 119 by decide)) (Nat.le_of_ble_eq_true rfl) rfl (by decide) (zt_Tokens_advance hr8)]
      rw [zs_aload_n (ls := [some (.ref 17), some (.int x1), some (.int 0)]) zd_75_46 rfl]
      rw [zs_getR (n := 119) (K := zx_pk (zK L) 119) (ρ := zR) (c := 7) (k := 1) (q := 17) (p := 25) zd_75_47 rfl rfl rfl (by decide) rfl]
      rw [zp_getL (n := 119) (K := zx_pk (zK L) 119) (τ := r8.2) (c := 9) (k := 9) (q := 25) (v := (r8.2 25 9)) zd_75_50 rfl rfl rfl (by decide) rfl]
      rw [zp_l2i (x := (r8.2 25 9)) (z := ((r8.2 25 9) : Int64).toInt32) zd_75_53 rfl]
      rw [zs_istore_n (x := ((r8.2 25 9) : Int64).toInt32) (ls' := [some (.ref 17), some (.int x1), some (.int ((r8.2 25 9) : Int64).toInt32)]) zd_75_54 (Nat.le_of_ble_eq_true rfl) rfl]
      rw [zs_aload_n (ls := [some (.ref 17), some (.int x1), some (.int ((r8.2 25 9) : Int64).toInt32)]) zd_75_55 rfl]
      rw [zs_iconst (z := 2) zd_75_56 (by decide)]
      obtain ⟨r9, hr9, H⟩ := Option.bind_eq_some_iff.mp H
      rw [zp_callVi (x := r9.1) (st := [.int 2, .ref 17]) (as := [.ref 17, .int 2]) (rest := []) (e := 1) zd_75_57 rfl (by decide +kernel) (by decide) rfl rfl (Nat.le_of_ble_eq_true rfl) (zx_rcb_ok rfl (show 17 < 119 by decide)) (Nat.le_of_ble_eq_true rfl) rfl (by decide) (zt_Reader_expect hr9)]
      by_cases c10 : ¬ r9.1 = 0
      · rw [if_pos c10] at H
        rw [zp_if_ne_t (x := r9.1) (t := 64) zd_75_60 rfl c10]
        exact zt_Reader_tellField_64  H
      · rw [if_neg c10] at H
        rw [zp_if_ne_f (x := r9.1) (t := 64) zd_75_60 rfl c10]
        have H := Option.some.inj H
        subst H
        exact zs_return zd_75_63 (by decide +kernel)
  · rw [if_neg c3] at H
    rw [zp_if_ne_f (x := r2.1) (t := 25) zd_75_21 rfl c3]
    have H := Option.some.inj H
    subst H
    exact zs_return zd_75_24 (by decide +kernel)
set_option maxRecDepth 20000 in
theorem zt_Reader_readTelling_79 {a b L N : Nat} {σ : zS} {τ : zT} {v1 : Int32} {o2 : Option Value} {r : zS × zT} (H : zb_Reader_readTelling_79 N σ τ v1 = some r) : zx_go 4 74 79 [some (.ref 17), some (.int v1), o2] [] ((119, a, b), zx_pk (zK L) 119, σ, τ, zR) = some (none, ((119, a, b), zx_pk (zK L) 119, r.1, r.2, zR)) := by
  unfold zb_Reader_readTelling_79 at H
  rw [zs_iload_n (ls := [some (.ref 17), some (.int v1), o2]) zd_74_79 rfl]
  rw [zs_sipush (z := 303) zd_74_80 (by decide)]
  by_cases c4 : ¬ v1 = 303
  · rw [if_pos c4] at H
    rw [zp_icmp_ne_t (x := v1) (y := 303) (t := 93) zd_74_83 rfl c4]
    rw [zs_aload_n (ls := [some (.ref 17), some (.int v1), o2]) zd_74_93 rfl]
    rw [zs_iconst (z := 2) zd_74_94 (by decide)]
    obtain ⟨r5, hr5, H⟩ := Option.bind_eq_some_iff.mp H
    rw [zp_callVi (x := r5.1) (st := [.int 2, .ref 17]) (as := [.ref 17, .int 2]) (rest := []) (e := 0) zd_74_95 rfl (by decide +kernel) (by decide) rfl rfl (Nat.le_of_ble_eq_true rfl) (zx_rcb_ok rfl (show 17 < 119 by decide)) (Nat.le_of_ble_eq_true rfl) rfl (by decide) (zt_Reader_failHere hr5)]
    rw [zs_pop (a := .int r5.1) zd_74_98 rfl]
    have H := Option.some.inj H
    subst H
    exact zs_return zd_74_99 (by decide +kernel)
  · rw [if_neg c4] at H
    rw [zp_icmp_ne_f (x := v1) (y := 303) (t := 93) zd_74_83 rfl c4]
    rw [zs_aload_n (ls := [some (.ref 17), some (.int v1), o2]) zd_74_86 rfl]
    obtain ⟨r6, hr6, H⟩ := Option.bind_eq_some_iff.mp H
    rw [zp_callVv (st := [.ref 17]) (as := [.ref 17]) (rest := []) (e := 3) zd_74_87 rfl (by decide +kernel) (by decide) rfl rfl (Nat.le_of_ble_eq_true rfl) (zx_rcb_ok rfl (show 17 < 119 by decide)) (Nat.le_of_ble_eq_true rfl) rfl (by decide) (zt_Reader_tellThread hr6)]
    rw [zs_goto (t := 99) zd_74_90 rfl]
    have H := Option.some.inj H
    subst H
    exact zs_return zd_74_99 (by decide +kernel)
set_option maxRecDepth 20000 in
theorem zt_Reader_readTelling_61 {a b L N : Nat} {σ : zS} {τ : zT} {v1 : Int32} {v2 : Int32} {r : zS × zT} (H : zb_Reader_readTelling_61 N σ τ v1 v2 = some r) : zx_go 4 74 61 [some (.ref 17), some (.int v1), some (.int v2)] [] ((119, a, b), zx_pk (zK L) 119, σ, τ, zR) = some (none, ((119, a, b), zx_pk (zK L) 119, r.1, r.2, zR)) := by
  unfold zb_Reader_readTelling_61 at H
  rw [zs_iload_n (ls := [some (.ref 17), some (.int v1), some (.int v2)]) zd_74_61 rfl]
  by_cases c3 : v2 = 0
  · rw [if_pos c3] at H
    rw [zp_if_eq_t (x := v2) (t := 79) zd_74_62 rfl c3]
    exact zt_Reader_readTelling_79  H
  · rw [if_neg c3] at H
    rw [zp_if_eq_f (x := v2) (t := 79) zd_74_62 rfl c3]
    rw [zs_iload_n (ls := [some (.ref 17), some (.int v1), some (.int v2)]) zd_74_65 rfl]
    rw [zs_sipush (z := 302) zd_74_66 (by decide)]
    by_cases c7 : ¬ v1 = 302
    · rw [if_pos c7] at H
      rw [zp_icmp_ne_t (x := v1) (y := 302) (t := 79) zd_74_69 rfl c7]
      exact zt_Reader_readTelling_79  H
    · rw [if_neg c7] at H
      rw [zp_icmp_ne_f (x := v1) (y := 302) (t := 79) zd_74_69 rfl c7]
      rw [zs_aload_n (ls := [some (.ref 17), some (.int v1), some (.int v2)]) zd_74_72 rfl]
      obtain ⟨r8, hr8, H⟩ := Option.bind_eq_some_iff.mp H
      rw [zp_callVv (st := [.ref 17]) (as := [.ref 17]) (rest := []) (e := 2) zd_74_73 rfl (by decide +kernel) (by decide) rfl rfl (Nat.le_of_ble_eq_true rfl) (zx_rcb_ok rfl (show 17 < 119 by decide)) (Nat.le_of_ble_eq_true rfl) rfl (by decide) (zt_Reader_tellLock hr8)]
      rw [zs_goto (t := 99) zd_74_76 rfl]
      have H := Option.some.inj H
      subst H
      exact zs_return zd_74_99 (by decide +kernel)
set_option maxRecDepth 20000 in
theorem zt_Reader_readTelling_55 {a b L N : Nat} {σ : zS} {τ : zT} {s0 : Int32} {o0 : Option Value} {o1 : Option Value} {o2 : Option Value} {r : zS × zT} (H : zb_Reader_readTelling_55 N σ τ s0 = some r) : zx_go 4 74 55 [o0, o1, o2] [.int s0, .ref 17] ((119, a, b), zx_pk (zK L) 119, σ, τ, zR) = some (none, ((119, a, b), zx_pk (zK L) 119, r.1, r.2, zR)) := by
  unfold zb_Reader_readTelling_55 at H
  obtain ⟨r11, hr11, H⟩ := Option.bind_eq_some_iff.mp H
  rw [zp_callVv (st := [.int s0, .ref 17]) (as := [.ref 17, .int s0]) (rest := []) (e := 2) zd_74_55 rfl (by decide +kernel) (by decide) rfl rfl (Nat.le_of_ble_eq_true rfl) (zx_rcb_ok rfl (show 17 < 119 by decide)) (Nat.le_of_ble_eq_true rfl) rfl (by decide) (zt_Reader_tellField hr11)]
  rw [zs_goto (t := 99) zd_74_58 rfl]
  have H := Option.some.inj H
  subst H
  exact zs_return zd_74_99 (by decide +kernel)
set_option maxRecDepth 20000 in
theorem zt_Reader_readTelling_42 {a b L N : Nat} {σ : zS} {τ : zT} {v1 : Int32} {o2 : Option Value} {r : zS × zT} (H : zb_Reader_readTelling_42 N σ τ v1 = some r) : zx_go 4 74 42 [some (.ref 17), some (.int v1), o2] [] ((119, a, b), zx_pk (zK L) 119, σ, τ, zR) = some (none, ((119, a, b), zx_pk (zK L) 119, r.1, r.2, zR)) := by
  unfold zb_Reader_readTelling_42 at H
  rw [zs_aload_n (ls := [some (.ref 17), some (.int v1), o2]) zd_74_42 rfl]
  rw [zs_iload_n (ls := [some (.ref 17), some (.int v1), o2]) zd_74_43 rfl]
  rw [zs_sipush (z := 301) zd_74_44 (by decide)]
  by_cases c10 : ¬ v1 = 301
  · rw [if_pos c10] at H
    rw [zp_icmp_ne_t (x := v1) (y := 301) (t := 54) zd_74_47 rfl c10]
    rw [zs_iconst (z := 0) zd_74_54 (by decide)]
    exact zt_Reader_readTelling_55  H
  · rw [if_neg c10] at H
    rw [zp_icmp_ne_f (x := v1) (y := 301) (t := 54) zd_74_47 rfl c10]
    rw [zs_iconst (z := 1) zd_74_50 (by decide)]
    rw [zs_goto (t := 55) zd_74_51 rfl]
    exact zt_Reader_readTelling_55  H
set_option maxRecDepth 20000 in
theorem zt_Reader_readTelling_23 {a b L N : Nat} {σ : zS} {τ : zT} {v1 : Int32} {s0 : Int32} {o2 : Option Value} {r : zS × zT} (H : zb_Reader_readTelling_23 N σ τ v1 s0 = some r) : zx_go 4 74 23 [some (.ref 17), some (.int v1), o2] [.int s0] ((119, a, b), zx_pk (zK L) 119, σ, τ, zR) = some (none, ((119, a, b), zx_pk (zK L) 119, r.1, r.2, zR)) := by
  unfold zb_Reader_readTelling_23 at H
  rw [zs_istore_n (x := s0) (ls' := [some (.ref 17), some (.int v1), some (.int s0)]) zd_74_23 (Nat.le_of_ble_eq_true rfl) rfl]
  rw [zs_iload_n (ls := [some (.ref 17), some (.int v1), some (.int s0)]) zd_74_24 rfl]
  by_cases c2 : s0 = 0
  · rw [if_pos c2] at H
    rw [zp_if_eq_t (x := s0) (t := 61) zd_74_25 rfl c2]
    exact zt_Reader_readTelling_61  H
  · rw [if_neg c2] at H
    rw [zp_if_eq_f (x := s0) (t := 61) zd_74_25 rfl c2]
    rw [zs_iload_n (ls := [some (.ref 17), some (.int v1), some (.int s0)]) zd_74_28 rfl]
    rw [zs_sipush (z := 300) zd_74_29 (by decide)]
    by_cases c9 : v1 = 300
    · rw [if_pos c9] at H
      rw [zp_icmp_eq_t (x := v1) (y := 300) (t := 42) zd_74_32 rfl c9]
      exact zt_Reader_readTelling_42  H
    · rw [if_neg c9] at H
      rw [zp_icmp_eq_f (x := v1) (y := 300) (t := 42) zd_74_32 rfl c9]
      rw [zs_iload_n (ls := [some (.ref 17), some (.int v1), some (.int s0)]) zd_74_35 rfl]
      rw [zs_sipush (z := 301) zd_74_36 (by decide)]
      by_cases c12 : ¬ v1 = 301
      · rw [if_pos c12] at H
        rw [zp_icmp_ne_t (x := v1) (y := 301) (t := 61) zd_74_39 rfl c12]
        exact zt_Reader_readTelling_61  H
      · rw [if_neg c12] at H
        rw [zp_icmp_ne_f (x := v1) (y := 301) (t := 61) zd_74_39 rfl c12]
        exact zt_Reader_readTelling_42  H
set_option maxRecDepth 20000 in
theorem zt_Reader_readTelling {a b L N : Nat} {σ : zS} {τ : zT} {r : zS × zT} (H : zf_Reader_readTelling N σ τ = some r) : zx_go 4 74 0 [some (.ref 17), none, none] [] ((119, a, b), zx_pk (zK L) 119, σ, τ, zR) = some (none, ((119, a, b), zx_pk (zK L) 119, r.1, r.2, zR)) := by
  unfold zf_Reader_readTelling at H
  rw [zs_aload_n (ls := [some (.ref 17), none, none]) zd_74_0 rfl]
  rw [zs_getR (n := 119) (K := zx_pk (zK L) 119) (ρ := zR) (c := 7) (k := 1) (q := 17) (p := 25) zd_74_1 rfl rfl rfl (by decide) rfl]
  rw [zp_getI (n := 119) (K := zx_pk (zK L) 119) (σ := σ) (c := 9) (k := 7) (q := 25) (v := (σ 25 7)) zd_74_4 rfl rfl rfl (by decide) rfl]
  rw [zs_istore_n (x := (σ 25 7)) (ls' := [some (.ref 17), some (.int (σ 25 7)), none]) zd_74_7 (Nat.le_of_ble_eq_true rfl) rfl]
  rw [zs_aload_n (ls := [some (.ref 17), some (.int (σ 25 7)), none]) zd_74_8 rfl]
  rw [zs_getR (n := 119) (K := zx_pk (zK L) 119) (ρ := zR) (c := 7) (k := 0) (q := 17) (p := 4) zd_74_9 rfl rfl rfl (by decide) rfl]
  rw [zp_getI (n := 119) (K := zx_pk (zK L) 119) (σ := σ) (c := 6) (k := 2) (q := 4) (v := (σ 4 2)) zd_74_12 rfl rfl rfl (by decide) rfl]
  by_cases c1 : ¬ (σ 4 2) = 0
  · rw [if_pos c1] at H
    rw [zp_if_ne_t (x := (σ 4 2)) (t := 22) zd_74_15 rfl c1]
    rw [zs_iconst (z := 0) zd_74_22 (by decide)]
    exact zt_Reader_readTelling_23  H
  · rw [if_neg c1] at H
    rw [zp_if_ne_f (x := (σ 4 2)) (t := 22) zd_74_15 rfl c1]
    rw [zs_iconst (z := 1) zd_74_18 (by decide)]
    rw [zs_goto (t := 23) zd_74_19 rfl]
    exact zt_Reader_readTelling_23  H
set_option maxRecDepth 20000 in
theorem zt_Weaver_isInSpan {a b L : Nat} {σ : zS} {τ : zT} {r : Int32} (H : zf_Weaver_isInSpan σ = some r) : zx_go 0 61 0 [some (.ref 29)] [] ((119, a, b), zx_pk (zK L) 119, σ, τ, zR) = some (some (.int r), ((119, a, b), zx_pk (zK L) 119, σ, τ, zR)) := by
  unfold zf_Weaver_isInSpan at H
  rw [zs_aload_n (ls := [some (.ref 29)]) zd_61_0 rfl]
  rw [zp_getI (n := 119) (K := zx_pk (zK L) 119) (σ := σ) (c := 10) (k := 12) (q := 29) (v := (σ 29 12)) zd_61_1 rfl rfl rfl (by decide) rfl]
  rw [zs_iconst (z := (-1)) zd_61_4 (by decide)]
  by_cases c1 : (σ 29 12) = (-1)
  · rw [if_pos c1] at H
    rw [zp_icmp_eq_t (x := (σ 29 12)) (y := (-1)) (t := 12) zd_61_5 rfl c1]
    rw [zs_iconst (z := 0) zd_61_12 (by decide)]
    have H := Option.some.inj H
    subst H
    exact zs_ireturn zd_61_13 (by decide +kernel)
  · rw [if_neg c1] at H
    rw [zp_icmp_eq_f (x := (σ 29 12)) (y := (-1)) (t := 12) zd_61_5 rfl c1]
    rw [zs_iconst (z := 1) zd_61_8 (by decide)]
    rw [zs_goto (t := 13) zd_61_9 rfl]
    have H := Option.some.inj H
    subst H
    exact zs_ireturn zd_61_13 (by decide +kernel)
set_option maxRecDepth 20000 in
theorem zt_Reader_readSpan {a b L : Nat} {σ : zS} {τ : zT} {r : zS × zT} (H : zf_Reader_readSpan σ τ = some r) : zx_go 3 60 0 [some (.ref 17)] [] ((119, a, b), zx_pk (zK L) 119, σ, τ, zR) = some (none, ((119, a, b), zx_pk (zK L) 119, r.1, r.2, zR)) := by
  unfold zf_Reader_readSpan at H
  rw [zs_aload_n (ls := [some (.ref 17)]) zd_60_0 rfl]
  rw [zs_getR (n := 119) (K := zx_pk (zK L) 119) (ρ := zR) (c := 7) (k := 3) (q := 17) (p := 29) zd_60_1 rfl rfl rfl (by decide) rfl]
  obtain ⟨r1, hr1, H⟩ := Option.bind_eq_some_iff.mp H
  rw [zp_callVi (x := r1) (st := [.ref 29]) (as := [.ref 29]) (rest := []) (e := 0) zd_60_4 rfl (by decide +kernel) (by decide) rfl rfl (Nat.le_of_ble_eq_true rfl) (zx_rcb_ok rfl (show 29 < 119 by decide)) (Nat.le_of_ble_eq_true rfl) rfl (by decide) (zt_Weaver_isInSpan hr1)]
  by_cases c2 : r1 = 0
  · rw [if_pos c2] at H
    rw [zp_if_eq_t (x := r1) (t := 19) zd_60_7 rfl c2]
    rw [zs_aload_n (ls := [some (.ref 17)]) zd_60_19 rfl]
    rw [zs_getR (n := 119) (K := zx_pk (zK L) 119) (ρ := zR) (c := 7) (k := 0) (q := 17) (p := 4) zd_60_20 rfl rfl rfl (by decide) rfl]
    rw [zp_getI (n := 119) (K := zx_pk (zK L) 119) (σ := σ) (c := 6) (k := 3) (q := 4) (v := (σ 4 3)) zd_60_23 rfl rfl rfl (by decide) rfl]
    rw [zs_bipush (z := 6) zd_60_26 (by decide)]
    by_cases c3 : (σ 4 3) < 6
    · rw [if_pos c3] at H
      rw [zp_icmp_lt_t (x := (σ 4 3)) (y := 6) (t := 40) zd_60_28 rfl c3]
      rw [zs_aload_n (ls := [some (.ref 17)]) zd_60_40 rfl]
      rw [zs_getR (n := 119) (K := zx_pk (zK L) 119) (ρ := zR) (c := 7) (k := 1) (q := 17) (p := 25) zd_60_41 rfl rfl rfl (by decide) rfl]
      obtain ⟨r4, hr4, H⟩ := Option.bind_eq_some_iff.mp H
      rw [zp_callVv (st := [.ref 25]) (as := [.ref 25]) (rest := []) (e := 0) zd_60_44 rfl (by decide +kernel) (by decide) rfl rfl (Nat.le_of_ble_eq_true rfl) (zx_rcb_ok rfl (show 25 < 119 by decide)) (Nat.le_of_ble_eq_true rfl) rfl (by decide) (zt_Tokens_advance hr4)]
      rw [zs_aload_n (ls := [some (.ref 17)]) zd_60_47 rfl]
      rw [zs_iconst (z := 2) zd_60_48 (by decide)]
      rw [zs_iconst (z := (-1)) zd_60_49 (by decide)]
      obtain ⟨r5, hr5, H⟩ := Option.bind_eq_some_iff.mp H
      rw [zp_callVv (st := [.int (-1), .int 2, .ref 17]) (as := [.ref 17, .int 2, .int (-1)]) (rest := []) (e := 2) zd_60_50 rfl (by decide +kernel) (by decide) rfl rfl (Nat.le_of_ble_eq_true rfl) (zx_rcb_ok rfl (show 17 < 119 by decide)) (Nat.le_of_ble_eq_true rfl) rfl (by decide) (zt_Reader_openBlock hr5)]
      have H := Option.some.inj H
      subst H
      exact zs_return zd_60_53 (by decide +kernel)
    · rw [if_neg c3] at H
      rw [zp_icmp_lt_f (x := (σ 4 3)) (y := 6) (t := 40) zd_60_28 rfl c3]
      rw [zs_aload_n (ls := [some (.ref 17)]) zd_60_31 rfl]
      rw [zs_iconst (z := 4) zd_60_32 (by decide)]
      obtain ⟨r6, hr6, H⟩ := Option.bind_eq_some_iff.mp H
      rw [zp_callVi (x := r6.1) (st := [.int 4, .ref 17]) (as := [.ref 17, .int 4]) (rest := []) (e := 0) zd_60_33 rfl (by decide +kernel) (by decide) rfl rfl (Nat.le_of_ble_eq_true rfl) (zx_rcb_ok rfl (show 17 < 119 by decide)) (Nat.le_of_ble_eq_true rfl) rfl (by decide) (zt_Reader_failHere hr6)]
      rw [zs_pop (a := .int r6.1) zd_60_36 rfl]
      rw [zs_goto (t := 53) zd_60_37 rfl]
      have H := Option.some.inj H
      subst H
      exact zs_return zd_60_53 (by decide +kernel)
  · rw [if_neg c2] at H
    rw [zp_if_eq_f (x := r1) (t := 19) zd_60_7 rfl c2]
    rw [zs_aload_n (ls := [some (.ref 17)]) zd_60_10 rfl]
    rw [zs_iconst (z := 2) zd_60_11 (by decide)]
    obtain ⟨r7, hr7, H⟩ := Option.bind_eq_some_iff.mp H
    rw [zp_callVi (x := r7.1) (st := [.int 2, .ref 17]) (as := [.ref 17, .int 2]) (rest := []) (e := 0) zd_60_12 rfl (by decide +kernel) (by decide) rfl rfl (Nat.le_of_ble_eq_true rfl) (zx_rcb_ok rfl (show 17 < 119 by decide)) (Nat.le_of_ble_eq_true rfl) rfl (by decide) (zt_Reader_failHere hr7)]
    rw [zs_pop (a := .int r7.1) zd_60_15 rfl]
    rw [zs_goto (t := 53) zd_60_16 rfl]
    have H := Option.some.inj H
    subst H
    exact zs_return zd_60_53 (by decide +kernel)
set_option maxRecDepth 20000 in
theorem zt_Program_lengthOf {a b L : Nat} {σ : zS} {τ : zT} {x1 : Int32} {r : Int32} (H : zf_Program_lengthOf σ x1 = some r) : zx_go 0 40 0 [some (.ref 4), some (.int x1)] [] ((119, a, b), zx_pk (zK L) 119, σ, τ, zR) = some (some (.int r), ((119, a, b), zx_pk (zK L) 119, σ, τ, zR)) := by
  unfold zf_Program_lengthOf at H
  rw [zs_iload_n (ls := [some (.ref 4), some (.int x1)]) zd_40_0 rfl]
  by_cases c1 : x1 < 0
  · rw [if_pos c1] at H
    rw [zp_if_lt_t (x := x1) (t := 18) zd_40_1 rfl c1]
    rw [zs_iconst (z := 0) zd_40_18 (by decide)]
    have H := Option.some.inj H
    subst H
    exact zs_ireturn zd_40_19 (by decide +kernel)
  · rw [if_neg c1] at H
    rw [zp_if_lt_f (x := x1) (t := 18) zd_40_1 rfl c1]
    rw [zs_iload_n (ls := [some (.ref 4), some (.int x1)]) zd_40_4 rfl]
    rw [zs_iconst (z := 4) zd_40_5 (by decide)]
    by_cases c2 : 4 ≤ x1
    · rw [if_pos c2] at H
      rw [zp_icmp_ge_t (x := x1) (y := 4) (t := 18) zd_40_6 rfl c2]
      rw [zs_iconst (z := 0) zd_40_18 (by decide)]
      have H := Option.some.inj H
      subst H
      exact zs_ireturn zd_40_19 (by decide +kernel)
    · rw [if_neg c2] at H
      rw [zp_icmp_ge_f (x := x1) (y := 4) (t := 18) zd_40_6 rfl c2]
      rw [zs_aload_n (ls := [some (.ref 4), some (.int x1)]) zd_40_9 rfl]
      rw [zs_getR (n := 119) (K := zx_pk (zK L) 119) (ρ := zR) (c := 6) (k := 7) (q := 4) (p := 5) zd_40_10 rfl rfl rfl (by decide) rfl]
      rw [zs_iload_n (ls := [some (.ref 4), some (.int x1)]) zd_40_13 rfl]
      by_cases c3 : 0 ≤ x1 ∧ x1 < 4
      · rw [if_pos c3] at H
        rw [zp_iaload (n := 119) (K := zx_pk (zK L) 119) (σ := σ) (q := 5) (m := 4) (i := x1) (k := x1.toNatClampNeg) (v := (σ 5 x1.toNatClampNeg)) zd_40_14 rfl (by decide) (zJ_in c3 rfl) rfl rfl]
        rw [zs_goto (t := 19) zd_40_15 rfl]
        have H := Option.some.inj H
        subst H
        exact zs_ireturn zd_40_19 rfl
      · rw [if_neg c3] at H
        cases H
set_option maxRecDepth 20000 in
theorem zt_Weaver_hasRoom {a b L : Nat} {σ : zS} {τ : zT} {r : Int32} (H : zf_Weaver_hasRoom σ = some r) : zx_go 1 39 0 [some (.ref 29)] [] ((119, a, b), zx_pk (zK L) 119, σ, τ, zR) = some (some (.int r), ((119, a, b), zx_pk (zK L) 119, σ, τ, zR)) := by
  unfold zf_Weaver_hasRoom at H
  rw [zs_aload_n (ls := [some (.ref 29)]) zd_39_0 rfl]
  rw [zs_getR (n := 119) (K := zx_pk (zK L) 119) (ρ := zR) (c := 10) (k := 0) (q := 29) (p := 4) zd_39_1 rfl rfl rfl (by decide) rfl]
  rw [zs_aload_n (ls := [some (.ref 29)]) zd_39_4 rfl]
  rw [zp_getI (n := 119) (K := zx_pk (zK L) 119) (σ := σ) (c := 10) (k := 8) (q := 29) (v := (σ 29 8)) zd_39_5 rfl rfl rfl (by decide) rfl]
  obtain ⟨r1, hr1, H⟩ := Option.bind_eq_some_iff.mp H
  rw [zp_callVi (x := r1) (st := [.int (σ 29 8), .ref 4]) (as := [.ref 4, .int (σ 29 8)]) (rest := []) (e := 0) zd_39_8 rfl (by decide +kernel) (by decide) rfl rfl (Nat.le_of_ble_eq_true rfl) (zx_rcb_ok rfl (show 4 < 119 by decide)) (Nat.le_of_ble_eq_true rfl) rfl (by decide) (zt_Program_lengthOf hr1)]
  rw [zs_bipush (z := 24) zd_39_11 (by decide)]
  by_cases c2 : 24 ≤ r1
  · rw [if_pos c2] at H
    rw [zp_icmp_ge_t (x := r1) (y := 24) (t := 20) zd_39_13 rfl c2]
    rw [zs_iconst (z := 0) zd_39_20 (by decide)]
    have H := Option.some.inj H
    subst H
    exact zs_ireturn zd_39_21 (by decide +kernel)
  · rw [if_neg c2] at H
    rw [zp_icmp_ge_f (x := r1) (y := 24) (t := 20) zd_39_13 rfl c2]
    rw [zs_iconst (z := 1) zd_39_16 (by decide)]
    rw [zs_goto (t := 21) zd_39_17 rfl]
    have H := Option.some.inj H
    subst H
    exact zs_ireturn zd_39_21 (by decide +kernel)
