/-! theorems of the functions, by program -/
set_option maxRecDepth 20000 in
theorem zt_M_assign_36 {a b L N : Nat} {σ : zS} {τ : zT} {v1 : Int32} {s0 : Int32} {o2 : Option Value} {o3 : Option Value} {o4 : Option Value} {r : zS} (H : zb_M_assign_36 N σ v1 s0 = some r) : zx_go 4 112 36 [some (.ref 82), some (.int v1), o2, o3, o4] [.int s0] ((119, a, b), zx_pk (zK L) 119, σ, τ, zR) = some (none, ((119, a, b), zx_pk (zK L) 119, r, τ, zR)) := by
  unfold zb_M_assign_36 at H
  rw [zs_istore_n (x := s0) (ls' := [some (.ref 82), some (.int v1), some (.int s0), o3, o4]) zd_112_36 (Nat.le_of_ble_eq_true rfl) rfl]
  rw [zs_aload_n (ls := [some (.ref 82), some (.int v1), some (.int s0), o3, o4]) zd_112_37 rfl]
  rw [zp_getZ (n := 119) (K := zx_pk (zK L) 119) (σ := σ) (c := 12) (k := 9) (q := 82) (v := (σ 82 9)) zd_112_38 rfl rfl rfl (by decide) rfl]
  by_cases c4 : (σ 82 9) = 0
  · rw [if_pos c4] at H
    rw [zp_if_eq_t (x := (σ 82 9)) (t := 45) zd_112_41 rfl c4]
    rw [zs_aload_n (ls := [some (.ref 82), some (.int v1), some (.int s0), o3, o4]) zd_112_45 rfl]
    rw [zs_iload_n (ls := [some (.ref 82), some (.int v1), some (.int s0), o3, o4]) zd_112_46 rfl]
    rw [zs_iconst (z := (-1)) zd_112_47 (by decide)]
    by_cases c5 : ¬ v1 = (-1)
    · rw [if_pos c5] at H
      rw [zp_icmp_ne_t (x := v1) (y := (-1)) (t := 55) zd_112_48 rfl c5]
      rw [zs_iconst (z := 1) zd_112_55 (by decide)]
      exact zt_M_assign_56  H
    · rw [if_neg c5] at H
      rw [zp_icmp_ne_f (x := v1) (y := (-1)) (t := 55) zd_112_48 rfl c5]
      rw [zs_iconst (z := 2) zd_112_51 (by decide)]
      rw [zs_goto (t := 56) zd_112_52 rfl]
      exact zt_M_assign_56  H
  · rw [if_neg c4] at H
    rw [zp_if_eq_f (x := (σ 82 9)) (t := 45) zd_112_41 rfl c4]
    have H := Option.some.inj H
    subst H
    exact zs_return zd_112_44 (by decide +kernel)
set_option maxRecDepth 20000 in
theorem zt_M_assign_22 {a b L N : Nat} {σ : zS} {τ : zT} {v1 : Int32} {o2 : Option Value} {o3 : Option Value} {o4 : Option Value} {r : zS} (H : zb_M_assign_22 N σ v1 = some r) : zx_go 4 112 22 [some (.ref 82), some (.int v1), o2, o3, o4] [] ((119, a, b), zx_pk (zK L) 119, σ, τ, zR) = some (none, ((119, a, b), zx_pk (zK L) 119, r, τ, zR)) := by
  unfold zb_M_assign_22 at H
  rw [zs_iload_n (ls := [some (.ref 82), some (.int v1), o2, o3, o4]) zd_112_22 rfl]
  rw [zs_iconst (z := (-1)) zd_112_23 (by decide)]
  by_cases c3 : ¬ v1 = (-1)
  · rw [if_pos c3] at H
    rw [zp_icmp_ne_t (x := v1) (y := (-1)) (t := 35) zd_112_24 rfl c3]
    rw [zs_iconst (z := 0) zd_112_35 (by decide)]
    exact zt_M_assign_36  H
  · rw [if_neg c3] at H
    rw [zp_icmp_ne_f (x := v1) (y := (-1)) (t := 35) zd_112_24 rfl c3]
    rw [zs_aload_n (ls := [some (.ref 82), some (.int v1), o2, o3, o4]) zd_112_27 rfl]
    rw [zs_iconst (z := 1) zd_112_28 (by decide)]
    obtain ⟨r34, hr34, H⟩ := Option.bind_eq_some_iff.mp H
    rw [zp_callVi (x := r34.1) (st := [.int 1, .ref 82]) (as := [.ref 82, .int 1]) (rest := []) (e := 1) zd_112_29 rfl (by decide +kernel) (by decide) rfl rfl (Nat.le_of_ble_eq_true rfl) (zx_rcb_ok rfl (show 82 < 119 by decide)) (Nat.le_of_ble_eq_true rfl) rfl (by decide) (zt_M_local hr34)]
    rw [zs_goto (t := 36) zd_112_32 rfl]
    exact zt_M_assign_36  H
set_option maxRecDepth 20000 in
theorem zt_M_assign {a b L N : Nat} {σ : zS} {τ : zT} {r : zS} (H : zf_M_assign N σ = some r) : zx_go 4 112 0 [some (.ref 82), none, none, none, none] [] ((119, a, b), zx_pk (zK L) 119, σ, τ, zR) = some (none, ((119, a, b), zx_pk (zK L) 119, r, τ, zR)) := by
  unfold zf_M_assign at H
  rw [zs_aload_n (ls := [some (.ref 82), none, none, none, none]) zd_112_0 rfl]
  obtain ⟨r1, hr1, H⟩ := Option.bind_eq_some_iff.mp H
  rw [zp_callVi (x := r1) (st := [.ref 82]) (as := [.ref 82]) (rest := []) (e := 1) zd_112_1 rfl (by decide +kernel) (by decide) rfl rfl (Nat.le_of_ble_eq_true rfl) (zx_rcb_ok rfl (show 82 < 119 by decide)) (Nat.le_of_ble_eq_true rfl) rfl (by decide) (zt_M_fieldHere hr1)]
  rw [zs_istore_n (x := r1) (ls' := [some (.ref 82), some (.int r1), none, none, none]) zd_112_4 (Nat.le_of_ble_eq_true rfl) rfl]
  rw [zs_iload_n (ls := [some (.ref 82), some (.int r1), none, none, none]) zd_112_5 rfl]
  rw [zs_iconst (z := (-1)) zd_112_6 (by decide)]
  by_cases c2 : ¬ r1 = (-1)
  · rw [if_pos c2] at H
    rw [zp_icmp_ne_t (x := r1) (y := (-1)) (t := 22) zd_112_7 rfl c2]
    exact zt_M_assign_22  H
  · rw [if_neg c2] at H
    rw [zp_icmp_ne_f (x := r1) (y := (-1)) (t := 22) zd_112_7 rfl c2]
    rw [zs_aload_n (ls := [some (.ref 82), some (.int r1), none, none, none]) zd_112_10 rfl]
    obtain ⟨r35, hr35, H⟩ := Option.bind_eq_some_iff.mp H
    rw [zp_callVi (x := r35) (st := [.ref 82]) (as := [.ref 82]) (rest := []) (e := 2) zd_112_11 rfl (by decide +kernel) (by decide) rfl rfl (Nat.le_of_ble_eq_true rfl) (zx_rcb_ok rfl (show 82 < 119 by decide)) (Nat.le_of_ble_eq_true rfl) rfl (by decide) (zt_M_isTold hr35)]
    by_cases c36 : r35 = 0
    · rw [if_pos c36] at H
      rw [zp_if_eq_t (x := r35) (t := 22) zd_112_14 rfl c36]
      exact zt_M_assign_22  H
    · rw [if_neg c36] at H
      rw [zp_if_eq_f (x := r35) (t := 22) zd_112_14 rfl c36]
      rw [zs_aload_n (ls := [some (.ref 82), some (.int r1), none, none, none]) zd_112_17 rfl]
      obtain ⟨r37, hr37, H⟩ := Option.bind_eq_some_iff.mp H
      rw [zp_callVv (st := [.ref 82]) (as := [.ref 82]) (rest := []) (e := 1) zd_112_18 rfl (by decide +kernel) (by decide) rfl rfl (Nat.le_of_ble_eq_true rfl) (zx_rcb_ok rfl (show 82 < 119 by decide)) (Nat.le_of_ble_eq_true rfl) rfl (by decide) (zt_M_cannot hr37)]
      have H := Option.some.inj H
      subst H
      exact zs_return zd_112_21 (by decide +kernel)
set_option maxRecDepth 20000 in
theorem zt_M_statement_402 {a b L N : Nat} {σ : zS} {τ : zT} {v1 : Int32} {s0 : Int32} {o2 : Option Value} {r : zS} (H : zb_M_statement_402 N σ v1 s0 = some r) : zx_go 5 111 402 [some (.ref 82), some (.int v1), o2] [.int s0, .ref 82] ((119, a, b), zx_pk (zK L) 119, σ, τ, zR) = some (none, ((119, a, b), zx_pk (zK L) 119, r, τ, zR)) := by
  unfold zb_M_statement_402 at H
  rw [zs_iconst (z := 0) zd_111_402 (by decide)]
  obtain ⟨r32, hr32, H⟩ := Option.bind_eq_some_iff.mp H
  rw [zp_callVi (x := r32.1) (st := [.int 0, .int s0, .ref 82]) (as := [.ref 82, .int s0, .int 0]) (rest := []) (e := 1) zd_111_403 rfl (by decide +kernel) (by decide) rfl rfl (Nat.le_of_ble_eq_true rfl) (zx_rcb_ok rfl (show 82 < 119 by decide)) (Nat.le_of_ble_eq_true rfl) rfl (by decide) (zt_M_addStep hr32)]
  rw [zs_istore_n (x := r32.1) (ls' := [some (.ref 82), some (.int v1), some (.int r32.1)]) zd_111_406 (Nat.le_of_ble_eq_true rfl) rfl]
  rw [zs_aload_n (ls := [some (.ref 82), some (.int v1), some (.int r32.1)]) zd_111_407 rfl]
  obtain ⟨r33, hr33, H⟩ := Option.bind_eq_some_iff.mp H
  rw [zp_callVv (st := [.ref 82]) (as := [.ref 82]) (rest := []) (e := 3) zd_111_408 rfl (by decide +kernel) (by decide) rfl rfl (Nat.le_of_ble_eq_true rfl) (zx_rcb_ok rfl (show 82 < 119 by decide)) (Nat.le_of_ble_eq_true rfl) rfl (by decide) (zt_M_nextIfWell hr33)]
  rw [zs_aload_n (ls := [some (.ref 82), some (.int v1), some (.int r32.1)]) zd_111_411 rfl]
  rw [zs_getR (n := 119) (K := zx_pk (zK L) 119) (ρ := zR) (c := 12) (k := 28) (q := 82) (p := 93) zd_111_412 rfl rfl rfl (by decide) rfl]
  rw [zs_iload_n (ls := [some (.ref 82), some (.int v1), some (.int r32.1)]) zd_111_415 rfl]
  rw [zs_iload_n (ls := [some (.ref 82), some (.int v1), some (.int r32.1)]) zd_111_416 rfl]
  rw [zp_iadd (x := v1) (y := r32.1) (z := (v1 + r32.1)) zd_111_417 rfl]
  rw [zs_aload_n (ls := [some (.ref 82), some (.int v1), some (.int r32.1)]) zd_111_418 rfl]
  obtain ⟨r34, hr34, H⟩ := Option.bind_eq_some_iff.mp H
  rw [zp_callVi (x := r34.1) (st := [.ref 82, .int (v1 + r32.1), .ref 93]) (as := [.ref 82]) (rest := [.int (v1 + r32.1), .ref 93]) (e := 3) zd_111_419 rfl (by decide +kernel) (by decide) rfl rfl (Nat.le_of_ble_eq_true rfl) (zx_rcb_ok rfl (show 82 < 119 by decide)) (Nat.le_of_ble_eq_true rfl) rfl (by decide) (zt_M_threadNamed hr34)]
  by_cases c35 : 0 ≤ (v1 + r32.1) ∧ (v1 + r32.1) < 96
  · rw [if_pos c35] at H
    rw [zp_iastore (n := 119) (K := zx_pk (zK L) 119) (q := 93) (m := 96) (i := (v1 + r32.1)) (k := (v1 + r32.1).toNatClampNeg) (x := r34.1) (z := r34.1) zd_111_422 rfl ⟨by decide, by decide⟩ (zJ_in c35 rfl) rfl rfl]
    rw [zs_aload_n (ls := [some (.ref 82), some (.int v1), some (.int r32.1)]) zd_111_423 rfl]
    rw [zs_bipush (z := 59) zd_111_424 (by decide)]
    obtain ⟨r36, hr36, H⟩ := Option.bind_eq_some_iff.mp H
    rw [zp_callVv (st := [.int 59, .ref 82]) (as := [.ref 82, .int 59]) (rest := []) (e := 3) zd_111_426 rfl (by decide +kernel) (by decide) rfl rfl (Nat.le_of_ble_eq_true rfl) (zx_rcb_ok rfl (show 82 < 119 by decide)) (Nat.le_of_ble_eq_true rfl) rfl (by decide) (zt_M_take hr36)]
    rw [zs_goto (t := 483) zd_111_429 rfl]
    have H := Option.some.inj H
    subst H
    exact zs_return zd_111_483 (by decide +kernel)
  · rw [if_neg c35] at H
    cases H
set_option maxRecDepth 20000 in
theorem zt_M_statement_364 {a b L N : Nat} {σ : zS} {τ : zT} {v1 : Int32} {v2 : Int32} {r : zS} (H : zb_M_statement_364 N σ v1 v2 = some r) : zx_go 5 111 364 [some (.ref 82), some (.int v1), some (.int v2)] [] ((119, a, b), zx_pk (zK L) 119, σ, τ, zR) = some (none, ((119, a, b), zx_pk (zK L) 119, r, τ, zR)) := by
  unfold zb_M_statement_364 at H
  rw [zs_aload_n (ls := [some (.ref 82), some (.int v1), some (.int v2)]) zd_111_364 rfl]
  rw [zs_getR (n := 119) (K := zx_pk (zK L) 119) (ρ := zR) (c := 12) (k := 28) (q := 82) (p := 93) zd_111_365 rfl rfl rfl (by decide) rfl]
  rw [zs_iload_n (ls := [some (.ref 82), some (.int v1), some (.int v2)]) zd_111_368 rfl]
  rw [zs_iload_n (ls := [some (.ref 82), some (.int v1), some (.int v2)]) zd_111_369 rfl]
  rw [zp_iadd (x := v1) (y := v2) (z := (v1 + v2)) zd_111_370 rfl]
  rw [zs_aload_n (ls := [some (.ref 82), some (.int v1), some (.int v2)]) zd_111_371 rfl]
  obtain ⟨r42, hr42, H⟩ := Option.bind_eq_some_iff.mp H
  rw [zp_callVi (x := r42.1) (st := [.ref 82, .int (v1 + v2), .ref 93]) (as := [.ref 82]) (rest := [.int (v1 + v2), .ref 93]) (e := 3) zd_111_372 rfl (by decide +kernel) (by decide) rfl rfl (Nat.le_of_ble_eq_true rfl) (zx_rcb_ok rfl (show 82 < 119 by decide)) (Nat.le_of_ble_eq_true rfl) rfl (by decide) (zt_M_lockNamed hr42)]
  by_cases c43 : 0 ≤ (v1 + v2) ∧ (v1 + v2) < 96
  · rw [if_pos c43] at H
    rw [zp_iastore (n := 119) (K := zx_pk (zK L) 119) (q := 93) (m := 96) (i := (v1 + v2)) (k := (v1 + v2).toNatClampNeg) (x := r42.1) (z := r42.1) zd_111_375 rfl ⟨by decide, by decide⟩ (zJ_in c43 rfl) rfl rfl]
    rw [zs_aload_n (ls := [some (.ref 82), some (.int v1), some (.int v2)]) zd_111_376 rfl]
    rw [zs_bipush (z := 59) zd_111_377 (by decide)]
    obtain ⟨r44, hr44, H⟩ := Option.bind_eq_some_iff.mp H
    rw [zp_callVv (st := [.int 59, .ref 82]) (as := [.ref 82, .int 59]) (rest := []) (e := 3) zd_111_379 rfl (by decide +kernel) (by decide) rfl rfl (Nat.le_of_ble_eq_true rfl) (zx_rcb_ok rfl (show 82 < 119 by decide)) (Nat.le_of_ble_eq_true rfl) rfl (by decide) (zt_M_take hr44)]
    rw [zs_goto (t := 483) zd_111_382 rfl]
    have H := Option.some.inj H
    subst H
    exact zs_return zd_111_483 (by decide +kernel)
  · rw [if_neg c43] at H
    cases H
set_option maxRecDepth 20000 in
theorem zt_M_statement_153 {a b L N : Nat} {σ : zS} {τ : zT} {v2 : Int32} {o1 : Option Value} {r : zS} (H : zb_M_statement_153 N σ v2 = some r) : zx_go 5 111 153 [some (.ref 82), o1, some (.int v2)] [] ((119, a, b), zx_pk (zK L) 119, σ, τ, zR) = some (none, ((119, a, b), zx_pk (zK L) 119, r, τ, zR)) := by
  unfold zb_M_statement_153 at H
  rw [zs_aload_n (ls := [some (.ref 82), o1, some (.int v2)]) zd_111_153 rfl]
  rw [zs_iconst (z := 1) zd_111_154 (by decide)]
  rw [zs_iload_n (ls := [some (.ref 82), o1, some (.int v2)]) zd_111_155 rfl]
  obtain ⟨r69, hr69, H⟩ := Option.bind_eq_some_iff.mp H
  rw [zp_callVv (st := [.int v2, .int 1, .ref 82]) (as := [.ref 82, .int 1, .int v2]) (rest := []) (e := 3) zd_111_156 rfl (by decide +kernel) (by decide) rfl rfl (Nat.le_of_ble_eq_true rfl) (zx_rcb_ok rfl (show 82 < 119 by decide)) (Nat.le_of_ble_eq_true rfl) rfl (by decide) (zt_M_openBlock hr69)]
  rw [zs_goto (t := 483) zd_111_159 rfl]
  have H := Option.some.inj H
  subst H
  exact zs_return zd_111_483 (by decide +kernel)
set_option maxRecDepth 20000 in
theorem zt_M_statement {a b L N : Nat} {σ : zS} {τ : zT} {r : zS} (H : zf_M_statement N σ = some r) : zx_go 5 111 0 [some (.ref 82), none, none] [] ((119, a, b), zx_pk (zK L) 119, σ, τ, zR) = some (none, ((119, a, b), zx_pk (zK L) 119, r, τ, zR)) := by
  unfold zf_M_statement at H
  rw [zs_bipush (z := 24) zd_111_0 (by decide)]
  rw [zs_aload_n (ls := [some (.ref 82), none, none]) zd_111_2 rfl]
  rw [zp_getI (n := 119) (K := zx_pk (zK L) 119) (σ := σ) (c := 12) (k := 39) (q := 82) (v := (σ 82 39)) zd_111_3 rfl rfl rfl (by decide) rfl]
  rw [zp_imul (x := 24) (y := (σ 82 39)) (z := (24 * (σ 82 39))) zd_111_6 rfl]
  rw [zs_istore_n (x := (24 * (σ 82 39))) (ls' := [some (.ref 82), some (.int (24 * (σ 82 39))), none]) zd_111_7 (Nat.le_of_ble_eq_true rfl) rfl]
  rw [zs_aload_n (ls := [some (.ref 82), some (.int (24 * (σ 82 39))), none]) zd_111_8 rfl]
  rw [zp_getI (n := 119) (K := zx_pk (zK L) 119) (σ := σ) (c := 12) (k := 7) (q := 82) (v := (σ 82 7)) zd_111_9 rfl rfl rfl (by decide) rfl]
  rw [zs_iconst (z := 2) zd_111_12 (by decide)]
  by_cases c1 : ¬ (σ 82 7) = 2
  · rw [if_pos c1] at H
    rw [zp_icmp_ne_t (x := (σ 82 7)) (y := 2) (t := 21) zd_111_13 rfl c1]
    rw [zs_aload_n (ls := [some (.ref 82), some (.int (24 * (σ 82 39))), none]) zd_111_21 rfl]
    rw [zp_getI (n := 119) (K := zx_pk (zK L) 119) (σ := σ) (c := 12) (k := 7) (q := 82) (v := (σ 82 7)) zd_111_22 rfl rfl rfl (by decide) rfl]
    rw [zs_iconst (z := 5) zd_111_25 (by decide)]
    by_cases c2 : (σ 82 7) = 5
    · rw [if_pos c2] at H
      rw [zp_icmp_eq_t (x := (σ 82 7)) (y := 5) (t := 34) zd_111_26 rfl c2]
      rw [zs_aload_n (ls := [some (.ref 82), some (.int (24 * (σ 82 39))), none]) zd_111_34 rfl]
      rw [zp_getI (n := 119) (K := zx_pk (zK L) 119) (σ := σ) (c := 12) (k := 8) (q := 82) (v := (σ 82 8)) zd_111_35 rfl rfl rfl (by decide) rfl]
      by_cases c3 : (σ 82 8) = 3
      · rw [if_pos c3] at H
        rw [zs_table (x := (σ 82 8)) (off := 66) (t := 104) zd_111_38 (by rw [c3]; decide) rfl]
        rw [zs_aload_n (ls := [some (.ref 82), some (.int (24 * (σ 82 39))), none]) zd_111_104 rfl]
        rw [zs_iconst (z := 3) zd_111_105 (by decide)]
        rw [zs_iconst (z := 0) zd_111_106 (by decide)]
        obtain ⟨r64, hr64, H⟩ := Option.bind_eq_some_iff.mp H
        rw [zp_callVi (x := r64.1) (st := [.int 0, .int 3, .ref 82]) (as := [.ref 82, .int 3, .int 0]) (rest := []) (e := 1) zd_111_107 rfl (by decide +kernel) (by decide) rfl rfl (Nat.le_of_ble_eq_true rfl) (zx_rcb_ok rfl (show 82 < 119 by decide)) (Nat.le_of_ble_eq_true rfl) rfl (by decide) (zt_M_addStep hr64)]
        rw [zs_istore_n (x := r64.1) (ls' := [some (.ref 82), some (.int (24 * (σ 82 39))), some (.int r64.1)]) zd_111_110 (Nat.le_of_ble_eq_true rfl) rfl]
        rw [zs_aload_n (ls := [some (.ref 82), some (.int (24 * (σ 82 39))), some (.int r64.1)]) zd_111_111 rfl]
        obtain ⟨r65, hr65, H⟩ := Option.bind_eq_some_iff.mp H
        rw [zp_callVv (st := [.ref 82]) (as := [.ref 82]) (rest := []) (e := 3) zd_111_112 rfl (by decide +kernel) (by decide) rfl rfl (Nat.le_of_ble_eq_true rfl) (zx_rcb_ok rfl (show 82 < 119 by decide)) (Nat.le_of_ble_eq_true rfl) rfl (by decide) (zt_M_nextIfWell hr65)]
        rw [zs_aload_n (ls := [some (.ref 82), some (.int (24 * (σ 82 39))), some (.int r64.1)]) zd_111_115 rfl]
        rw [zs_getR (n := 119) (K := zx_pk (zK L) 119) (ρ := zR) (c := 12) (k := 28) (q := 82) (p := 93) zd_111_116 rfl rfl rfl (by decide) rfl]
        rw [zs_iload_n (ls := [some (.ref 82), some (.int (24 * (σ 82 39))), some (.int r64.1)]) zd_111_119 rfl]
        rw [zs_iload_n (ls := [some (.ref 82), some (.int (24 * (σ 82 39))), some (.int r64.1)]) zd_111_120 rfl]
        rw [zp_iadd (x := (24 * (σ 82 39))) (y := r64.1) (z := ((24 * (σ 82 39)) + r64.1)) zd_111_121 rfl]
        rw [zs_aload_n (ls := [some (.ref 82), some (.int (24 * (σ 82 39))), some (.int r64.1)]) zd_111_122 rfl]
        obtain ⟨r66, hr66, H⟩ := Option.bind_eq_some_iff.mp H
        rw [zp_callVi (x := r66.1) (st := [.ref 82, .int ((24 * (σ 82 39)) + r64.1), .ref 93]) (as := [.ref 82]) (rest := [.int ((24 * (σ 82 39)) + r64.1), .ref 93]) (e := 3) zd_111_123 rfl (by decide +kernel) (by decide) rfl rfl (Nat.le_of_ble_eq_true rfl) (zx_rcb_ok rfl (show 82 < 119 by decide)) (Nat.le_of_ble_eq_true rfl) rfl (by decide) (zt_M_lockNamed hr66)]
        by_cases c67 : 0 ≤ ((24 * (σ 82 39)) + r64.1) ∧ ((24 * (σ 82 39)) + r64.1) < 96
        · rw [if_pos c67] at H
          rw [zp_iastore (n := 119) (K := zx_pk (zK L) 119) (q := 93) (m := 96) (i := ((24 * (σ 82 39)) + r64.1)) (k := ((24 * (σ 82 39)) + r64.1).toNatClampNeg) (x := r66.1) (z := r66.1) zd_111_126 rfl ⟨by decide, by decide⟩ (zJ_in c67 rfl) rfl rfl]
          rw [zs_aload_n (ls := [some (.ref 82), some (.int (24 * (σ 82 39))), some (.int r64.1)]) zd_111_127 rfl]
          rw [zp_getZ (n := 119) (K := zx_pk (zK L) 119) (σ := (zx_up r66.2 93 ((24 * (σ 82 39)) + r64.1).toNatClampNeg r66.1)) (c := 12) (k := 9) (q := 82) (v := (r66.2 82 9)) zd_111_128 rfl rfl rfl (by decide) (show ((zx_up r66.2 93 ((24 * (σ 82 39)) + r64.1).toNatClampNeg r66.1) : zS) 82 9 = (r66.2 82 9) from ((zx_up_ne (by decide)).trans rfl))]
          by_cases c68 : ¬ (r66.2 82 9) = 0
          · rw [if_pos c68] at H
            rw [zp_if_ne_t (x := (r66.2 82 9)) (t := 153) zd_111_131 rfl c68]
            exact zt_M_statement_153  H
          · rw [if_neg c68] at H
            rw [zp_if_ne_f (x := (r66.2 82 9)) (t := 153) zd_111_131 rfl c68]
            rw [zs_aload_n (ls := [some (.ref 82), some (.int (24 * (σ 82 39))), some (.int r64.1)]) zd_111_134 rfl]
            rw [zs_aload_n (ls := [some (.ref 82), some (.int (24 * (σ 82 39))), some (.int r64.1)]) zd_111_135 rfl]
            rw [zp_getI (n := 119) (K := zx_pk (zK L) 119) (σ := (zx_up r66.2 93 ((24 * (σ 82 39)) + r64.1).toNatClampNeg r66.1)) (c := 12) (k := 40) (q := 82) (v := (r66.2 82 40)) zd_111_136 rfl rfl rfl (by decide) (show ((zx_up r66.2 93 ((24 * (σ 82 39)) + r64.1).toNatClampNeg r66.1) : zS) 82 40 = (r66.2 82 40) from ((zx_up_ne (by decide)).trans rfl))]
            rw [zs_iconst (z := 1) zd_111_139 (by decide)]
            rw [zs_aload_n (ls := [some (.ref 82), some (.int (24 * (σ 82 39))), some (.int r64.1)]) zd_111_140 rfl]
            rw [zs_getR (n := 119) (K := zx_pk (zK L) 119) (ρ := zR) (c := 12) (k := 28) (q := 82) (p := 93) zd_111_141 rfl rfl rfl (by decide) rfl]
            rw [zs_iload_n (ls := [some (.ref 82), some (.int (24 * (σ 82 39))), some (.int r64.1)]) zd_111_144 rfl]
            rw [zs_iload_n (ls := [some (.ref 82), some (.int (24 * (σ 82 39))), some (.int r64.1)]) zd_111_145 rfl]
            rw [zp_iadd (x := (24 * (σ 82 39))) (y := r64.1) (z := ((24 * (σ 82 39)) + r64.1)) zd_111_146 rfl]
            by_cases c70 : 0 ≤ ((24 * (σ 82 39)) + r64.1) ∧ ((24 * (σ 82 39)) + r64.1) < 96
            · rw [if_pos c70] at H
              rw [zp_iaload (n := 119) (K := zx_pk (zK L) 119) (σ := (zx_up r66.2 93 ((24 * (σ 82 39)) + r64.1).toNatClampNeg r66.1)) (q := 93) (m := 96) (i := ((24 * (σ 82 39)) + r64.1)) (k := ((24 * (σ 82 39)) + r64.1).toNatClampNeg) (v := r66.1) zd_111_147 rfl (by decide) (zJ_in c70 rfl) rfl (show ((zx_up r66.2 93 ((24 * (σ 82 39)) + r64.1).toNatClampNeg r66.1) : zS) 93 ((24 * (σ 82 39)) + r64.1).toNatClampNeg = r66.1 from zx_up_at)]
              rw [zp_ishl (x := 1) (y := r66.1) (z := (zJ_shl 1 r66.1)) zd_111_148 rfl]
              rw [zp_ior (x := (r66.2 82 40)) (y := (zJ_shl 1 r66.1)) (z := ((r66.2 82 40) ||| (zJ_shl 1 r66.1))) zd_111_149 rfl]
              rw [zs_putI (n := 119) (K := zx_pk (zK L) 119) (c := 12) (k := 40) (q := 82) (x := ((r66.2 82 40) ||| (zJ_shl 1 r66.1))) zd_111_150 rfl rfl (by decide +kernel) rfl (by decide)]
              exact zt_M_statement_153  H
            · rw [if_neg c70] at H
              cases H
        · rw [if_neg c67] at H
          cases H
      · rw [if_neg c3] at H
        by_cases c4 : (σ 82 8) = 4
        · rw [if_pos c4] at H
          rw [zs_table (x := (σ 82 8)) (off := 441) (t := 479) zd_111_38 (by rw [c4]; decide) rfl]
          rw [zs_aload_n (ls := [some (.ref 82), some (.int (24 * (σ 82 39))), none]) zd_111_479 rfl]
          obtain ⟨r63, hr63, H⟩ := Option.bind_eq_some_iff.mp H
          rw [zp_callVv (st := [.ref 82]) (as := [.ref 82]) (rest := []) (e := 1) zd_111_480 rfl (by decide +kernel) (by decide) rfl rfl (Nat.le_of_ble_eq_true rfl) (zx_rcb_ok rfl (show 82 < 119 by decide)) (Nat.le_of_ble_eq_true rfl) rfl (by decide) (zt_M_cannot hr63)]
          have H := Option.some.inj H
          subst H
          exact zs_return zd_111_483 (by decide +kernel)
        · rw [if_neg c4] at H
          by_cases c5 : (σ 82 8) = 5
          · rw [if_pos c5] at H
            rw [zs_table (x := (σ 82 8)) (off := 200) (t := 238) zd_111_38 (by rw [c5]; decide) rfl]
            rw [zs_aload_n (ls := [some (.ref 82), some (.int (24 * (σ 82 39))), none]) zd_111_238 rfl]
            rw [zs_iconst (z := 5) zd_111_239 (by decide)]
            rw [zs_iconst (z := (-1)) zd_111_240 (by decide)]
            obtain ⟨r59, hr59, H⟩ := Option.bind_eq_some_iff.mp H
            rw [zp_callVi (x := r59.1) (st := [.int (-1), .int 5, .ref 82]) (as := [.ref 82, .int 5, .int (-1)]) (rest := []) (e := 1) zd_111_241 rfl (by decide +kernel) (by decide) rfl rfl (Nat.le_of_ble_eq_true rfl) (zx_rcb_ok rfl (show 82 < 119 by decide)) (Nat.le_of_ble_eq_true rfl) rfl (by decide) (zt_M_addStep hr59)]
            rw [zs_istore_n (x := r59.1) (ls' := [some (.ref 82), some (.int (24 * (σ 82 39))), some (.int r59.1)]) zd_111_244 (Nat.le_of_ble_eq_true rfl) rfl]
            rw [zs_aload_n (ls := [some (.ref 82), some (.int (24 * (σ 82 39))), some (.int r59.1)]) zd_111_245 rfl]
            obtain ⟨r60, hr60, H⟩ := Option.bind_eq_some_iff.mp H
            rw [zp_callVv (st := [.ref 82]) (as := [.ref 82]) (rest := []) (e := 3) zd_111_246 rfl (by decide +kernel) (by decide) rfl rfl (Nat.le_of_ble_eq_true rfl) (zx_rcb_ok rfl (show 82 < 119 by decide)) (Nat.le_of_ble_eq_true rfl) rfl (by decide) (zt_M_nextIfWell hr60)]
            rw [zs_aload_n (ls := [some (.ref 82), some (.int (24 * (σ 82 39))), some (.int r59.1)]) zd_111_249 rfl]
            rw [zs_iload_n (ls := [some (.ref 82), some (.int (24 * (σ 82 39))), some (.int r59.1)]) zd_111_250 rfl]
            obtain ⟨r61, hr61, H⟩ := Option.bind_eq_some_iff.mp H
            rw [zp_callVv (st := [.int r59.1, .ref 82]) (as := [.ref 82, .int r59.1]) (rest := []) (e := 4) zd_111_251 rfl (by decide +kernel) (by decide) rfl rfl (Nat.le_of_ble_eq_true rfl) (zx_rcb_ok rfl (show 82 < 119 by decide)) (Nat.le_of_ble_eq_true rfl) rfl (by decide) (zt_M_test hr61)]
            rw [zs_aload_n (ls := [some (.ref 82), some (.int (24 * (σ 82 39))), some (.int r59.1)]) zd_111_254 rfl]
            rw [zs_iconst (z := 3) zd_111_255 (by decide)]
            rw [zs_iload_n (ls := [some (.ref 82), some (.int (24 * (σ 82 39))), some (.int r59.1)]) zd_111_256 rfl]
            obtain ⟨r62, hr62, H⟩ := Option.bind_eq_some_iff.mp H
            rw [zp_callVv (st := [.int r59.1, .int 3, .ref 82]) (as := [.ref 82, .int 3, .int r59.1]) (rest := []) (e := 3) zd_111_257 rfl (by decide +kernel) (by decide) rfl rfl (Nat.le_of_ble_eq_true rfl) (zx_rcb_ok rfl (show 82 < 119 by decide)) (Nat.le_of_ble_eq_true rfl) rfl (by decide) (zt_M_openBlock hr62)]
            rw [zs_goto (t := 483) zd_111_260 rfl]
            have H := Option.some.inj H
            subst H
            exact zs_return zd_111_483 (by decide +kernel)
          · rw [if_neg c5] at H
            by_cases c6 : (σ 82 8) = 6
            · rw [if_pos c6] at H
              rw [zs_table (x := (σ 82 8)) (off := 441) (t := 479) zd_111_38 (by rw [c6]; decide) rfl]
              rw [zs_aload_n (ls := [some (.ref 82), some (.int (24 * (σ 82 39))), none]) zd_111_479 rfl]
              obtain ⟨r58, hr58, H⟩ := Option.bind_eq_some_iff.mp H
              rw [zp_callVv (st := [.ref 82]) (as := [.ref 82]) (rest := []) (e := 1) zd_111_480 rfl (by decide +kernel) (by decide) rfl rfl (Nat.le_of_ble_eq_true rfl) (zx_rcb_ok rfl (show 82 < 119 by decide)) (Nat.le_of_ble_eq_true rfl) rfl (by decide) (zt_M_cannot hr58)]
              have H := Option.some.inj H
              subst H
              exact zs_return zd_111_483 (by decide +kernel)
            · rw [if_neg c6] at H
              by_cases c7 : (σ 82 8) = 7
              · rw [if_pos c7] at H
                rw [zs_table (x := (σ 82 8)) (off := 225) (t := 263) zd_111_38 (by rw [c7]; decide) rfl]
                rw [zs_aload_n (ls := [some (.ref 82), some (.int (24 * (σ 82 39))), none]) zd_111_263 rfl]
                rw [zs_bipush (z := 6) zd_111_264 (by decide)]
                rw [zs_iconst (z := (-1)) zd_111_266 (by decide)]
                obtain ⟨r54, hr54, H⟩ := Option.bind_eq_some_iff.mp H
                rw [zp_callVi (x := r54.1) (st := [.int (-1), .int 6, .ref 82]) (as := [.ref 82, .int 6, .int (-1)]) (rest := []) (e := 1) zd_111_267 rfl (by decide +kernel) (by decide) rfl rfl (Nat.le_of_ble_eq_true rfl) (zx_rcb_ok rfl (show 82 < 119 by decide)) (Nat.le_of_ble_eq_true rfl) rfl (by decide) (zt_M_addStep hr54)]
                rw [zs_istore_n (x := r54.1) (ls' := [some (.ref 82), some (.int (24 * (σ 82 39))), some (.int r54.1)]) zd_111_270 (Nat.le_of_ble_eq_true rfl) rfl]
                rw [zs_aload_n (ls := [some (.ref 82), some (.int (24 * (σ 82 39))), some (.int r54.1)]) zd_111_271 rfl]
                obtain ⟨r55, hr55, H⟩ := Option.bind_eq_some_iff.mp H
                rw [zp_callVv (st := [.ref 82]) (as := [.ref 82]) (rest := []) (e := 3) zd_111_272 rfl (by decide +kernel) (by decide) rfl rfl (Nat.le_of_ble_eq_true rfl) (zx_rcb_ok rfl (show 82 < 119 by decide)) (Nat.le_of_ble_eq_true rfl) rfl (by decide) (zt_M_nextIfWell hr55)]
                rw [zs_aload_n (ls := [some (.ref 82), some (.int (24 * (σ 82 39))), some (.int r54.1)]) zd_111_275 rfl]
                rw [zs_iload_n (ls := [some (.ref 82), some (.int (24 * (σ 82 39))), some (.int r54.1)]) zd_111_276 rfl]
                obtain ⟨r56, hr56, H⟩ := Option.bind_eq_some_iff.mp H
                rw [zp_callVv (st := [.int r54.1, .ref 82]) (as := [.ref 82, .int r54.1]) (rest := []) (e := 4) zd_111_277 rfl (by decide +kernel) (by decide) rfl rfl (Nat.le_of_ble_eq_true rfl) (zx_rcb_ok rfl (show 82 < 119 by decide)) (Nat.le_of_ble_eq_true rfl) rfl (by decide) (zt_M_test hr56)]
                rw [zs_aload_n (ls := [some (.ref 82), some (.int (24 * (σ 82 39))), some (.int r54.1)]) zd_111_280 rfl]
                rw [zs_iconst (z := 5) zd_111_281 (by decide)]
                rw [zs_iload_n (ls := [some (.ref 82), some (.int (24 * (σ 82 39))), some (.int r54.1)]) zd_111_282 rfl]
                obtain ⟨r57, hr57, H⟩ := Option.bind_eq_some_iff.mp H
                rw [zp_callVv (st := [.int r54.1, .int 5, .ref 82]) (as := [.ref 82, .int 5, .int r54.1]) (rest := []) (e := 3) zd_111_283 rfl (by decide +kernel) (by decide) rfl rfl (Nat.le_of_ble_eq_true rfl) (zx_rcb_ok rfl (show 82 < 119 by decide)) (Nat.le_of_ble_eq_true rfl) rfl (by decide) (zt_M_openBlock hr57)]
                rw [zs_goto (t := 483) zd_111_286 rfl]
                have H := Option.some.inj H
                subst H
                exact zs_return zd_111_483 (by decide +kernel)
              · rw [if_neg c7] at H
                by_cases c8 : (σ 82 8) = 8
                · rw [if_pos c8] at H
                  rw [zs_table (x := (σ 82 8)) (off := 251) (t := 289) zd_111_38 (by rw [c8]; decide) rfl]
                  rw [zs_aload_n (ls := [some (.ref 82), some (.int (24 * (σ 82 39))), none]) zd_111_289 rfl]
                  rw [zs_bipush (z := 7) zd_111_290 (by decide)]
                  rw [zs_iconst (z := 0) zd_111_292 (by decide)]
                  obtain ⟨r49, hr49, H⟩ := Option.bind_eq_some_iff.mp H
                  rw [zp_callVi (x := r49.1) (st := [.int 0, .int 7, .ref 82]) (as := [.ref 82, .int 7, .int 0]) (rest := []) (e := 1) zd_111_293 rfl (by decide +kernel) (by decide) rfl rfl (Nat.le_of_ble_eq_true rfl) (zx_rcb_ok rfl (show 82 < 119 by decide)) (Nat.le_of_ble_eq_true rfl) rfl (by decide) (zt_M_addStep hr49)]
                  rw [zs_istore_n (x := r49.1) (ls' := [some (.ref 82), some (.int (24 * (σ 82 39))), some (.int r49.1)]) zd_111_296 (Nat.le_of_ble_eq_true rfl) rfl]
                  rw [zs_aload_n (ls := [some (.ref 82), some (.int (24 * (σ 82 39))), some (.int r49.1)]) zd_111_297 rfl]
                  obtain ⟨r50, hr50, H⟩ := Option.bind_eq_some_iff.mp H
                  rw [zp_callVv (st := [.ref 82]) (as := [.ref 82]) (rest := []) (e := 3) zd_111_298 rfl (by decide +kernel) (by decide) rfl rfl (Nat.le_of_ble_eq_true rfl) (zx_rcb_ok rfl (show 82 < 119 by decide)) (Nat.le_of_ble_eq_true rfl) rfl (by decide) (zt_M_nextIfWell hr50)]
                  rw [zs_aload_n (ls := [some (.ref 82), some (.int (24 * (σ 82 39))), some (.int r49.1)]) zd_111_301 rfl]
                  rw [zs_getR (n := 119) (K := zx_pk (zK L) 119) (ρ := zR) (c := 12) (k := 28) (q := 82) (p := 93) zd_111_302 rfl rfl rfl (by decide) rfl]
                  rw [zs_iload_n (ls := [some (.ref 82), some (.int (24 * (σ 82 39))), some (.int r49.1)]) zd_111_305 rfl]
                  rw [zs_iload_n (ls := [some (.ref 82), some (.int (24 * (σ 82 39))), some (.int r49.1)]) zd_111_306 rfl]
                  rw [zp_iadd (x := (24 * (σ 82 39))) (y := r49.1) (z := ((24 * (σ 82 39)) + r49.1)) zd_111_307 rfl]
                  rw [zs_aload_n (ls := [some (.ref 82), some (.int (24 * (σ 82 39))), some (.int r49.1)]) zd_111_308 rfl]
                  obtain ⟨r51, hr51, H⟩ := Option.bind_eq_some_iff.mp H
                  rw [zp_callVi (x := r51.1) (st := [.ref 82, .int ((24 * (σ 82 39)) + r49.1), .ref 93]) (as := [.ref 82]) (rest := [.int ((24 * (σ 82 39)) + r49.1), .ref 93]) (e := 3) zd_111_309 rfl (by decide +kernel) (by decide) rfl rfl (Nat.le_of_ble_eq_true rfl) (zx_rcb_ok rfl (show 82 < 119 by decide)) (Nat.le_of_ble_eq_true rfl) rfl (by decide) (zt_M_lockNamed hr51)]
                  by_cases c52 : 0 ≤ ((24 * (σ 82 39)) + r49.1) ∧ ((24 * (σ 82 39)) + r49.1) < 96
                  · rw [if_pos c52] at H
                    rw [zp_iastore (n := 119) (K := zx_pk (zK L) 119) (q := 93) (m := 96) (i := ((24 * (σ 82 39)) + r49.1)) (k := ((24 * (σ 82 39)) + r49.1).toNatClampNeg) (x := r51.1) (z := r51.1) zd_111_312 rfl ⟨by decide, by decide⟩ (zJ_in c52 rfl) rfl rfl]
                    rw [zs_aload_n (ls := [some (.ref 82), some (.int (24 * (σ 82 39))), some (.int r49.1)]) zd_111_313 rfl]
                    rw [zs_bipush (z := 59) zd_111_314 (by decide)]
                    obtain ⟨r53, hr53, H⟩ := Option.bind_eq_some_iff.mp H
                    rw [zp_callVv (st := [.int 59, .ref 82]) (as := [.ref 82, .int 59]) (rest := []) (e := 3) zd_111_316 rfl (by decide +kernel) (by decide) rfl rfl (Nat.le_of_ble_eq_true rfl) (zx_rcb_ok rfl (show 82 < 119 by decide)) (Nat.le_of_ble_eq_true rfl) rfl (by decide) (zt_M_take hr53)]
                    rw [zs_goto (t := 483) zd_111_319 rfl]
                    have H := Option.some.inj H
                    subst H
                    exact zs_return zd_111_483 (by decide +kernel)
                  · rw [if_neg c52] at H
                    cases H
                · rw [if_neg c8] at H
                  by_cases c9 : (σ 82 8) = 9
                  · rw [if_pos c9] at H
                    rw [zs_table (x := (σ 82 8)) (off := 284) (t := 322) zd_111_38 (by rw [c9]; decide) rfl]
                    rw [zs_aload_n (ls := [some (.ref 82), some (.int (24 * (σ 82 39))), none]) zd_111_322 rfl]
                    rw [zs_bipush (z := 8) zd_111_323 (by decide)]
                    rw [zs_iconst (z := 0) zd_111_325 (by decide)]
                    obtain ⟨r39, hr39, H⟩ := Option.bind_eq_some_iff.mp H
                    rw [zp_callVi (x := r39.1) (st := [.int 0, .int 8, .ref 82]) (as := [.ref 82, .int 8, .int 0]) (rest := []) (e := 1) zd_111_326 rfl (by decide +kernel) (by decide) rfl rfl (Nat.le_of_ble_eq_true rfl) (zx_rcb_ok rfl (show 82 < 119 by decide)) (Nat.le_of_ble_eq_true rfl) rfl (by decide) (zt_M_addStep hr39)]
                    rw [zs_istore_n (x := r39.1) (ls' := [some (.ref 82), some (.int (24 * (σ 82 39))), some (.int r39.1)]) zd_111_329 (Nat.le_of_ble_eq_true rfl) rfl]
                    rw [zs_aload_n (ls := [some (.ref 82), some (.int (24 * (σ 82 39))), some (.int r39.1)]) zd_111_330 rfl]
                    obtain ⟨r40, hr40, H⟩ := Option.bind_eq_some_iff.mp H
                    rw [zp_callVv (st := [.ref 82]) (as := [.ref 82]) (rest := []) (e := 3) zd_111_331 rfl (by decide +kernel) (by decide) rfl rfl (Nat.le_of_ble_eq_true rfl) (zx_rcb_ok rfl (show 82 < 119 by decide)) (Nat.le_of_ble_eq_true rfl) rfl (by decide) (zt_M_nextIfWell hr40)]
                    rw [zs_aload_n (ls := [some (.ref 82), some (.int (24 * (σ 82 39))), some (.int r39.1)]) zd_111_334 rfl]
                    rw [zp_getZ (n := 119) (K := zx_pk (zK L) 119) (σ := r40) (c := 12) (k := 9) (q := 82) (v := (r40 82 9)) zd_111_335 rfl rfl rfl (by decide) rfl]
                    by_cases c41 : ¬ (r40 82 9) = 0
                    · rw [if_pos c41] at H
                      rw [zp_if_ne_t (x := (r40 82 9)) (t := 364) zd_111_338 rfl c41]
                      exact zt_M_statement_364  H
                    · rw [if_neg c41] at H
                      rw [zp_if_ne_f (x := (r40 82 9)) (t := 364) zd_111_338 rfl c41]
                      rw [zs_aload_n (ls := [some (.ref 82), some (.int (24 * (σ 82 39))), some (.int r39.1)]) zd_111_341 rfl]
                      rw [zs_bipush (z := 10) zd_111_342 (by decide)]
                      obtain ⟨r45, hr45, H⟩ := Option.bind_eq_some_iff.mp H
                      rw [zp_callVi (x := r45) (st := [.int 10, .ref 82]) (as := [.ref 82, .int 10]) (rest := []) (e := 0) zd_111_344 rfl (by decide +kernel) (by decide) rfl rfl (Nat.le_of_ble_eq_true rfl) (zx_rcb_ok rfl (show 82 < 119 by decide)) (Nat.le_of_ble_eq_true rfl) rfl (by decide) (zt_M_isWord hr45)]
                      by_cases c46 : r45 = 0
                      · rw [if_pos c46] at H
                        rw [zp_if_eq_t (x := r45) (t := 364) zd_111_347 rfl c46]
                        exact zt_M_statement_364  H
                      · rw [if_neg c46] at H
                        rw [zp_if_eq_f (x := r45) (t := 364) zd_111_347 rfl c46]
                        rw [zs_aload_n (ls := [some (.ref 82), some (.int (24 * (σ 82 39))), some (.int r39.1)]) zd_111_350 rfl]
                        rw [zs_getR (n := 119) (K := zx_pk (zK L) 119) (ρ := zR) (c := 12) (k := 27) (q := 82) (p := 92) zd_111_351 rfl rfl rfl (by decide) rfl]
                        rw [zs_iload_n (ls := [some (.ref 82), some (.int (24 * (σ 82 39))), some (.int r39.1)]) zd_111_354 rfl]
                        rw [zs_iload_n (ls := [some (.ref 82), some (.int (24 * (σ 82 39))), some (.int r39.1)]) zd_111_355 rfl]
                        rw [zp_iadd (x := (24 * (σ 82 39))) (y := r39.1) (z := ((24 * (σ 82 39)) + r39.1)) zd_111_356 rfl]
                        rw [zs_bipush (z := 9) zd_111_357 (by decide)]
                        by_cases c47 : 0 ≤ ((24 * (σ 82 39)) + r39.1) ∧ ((24 * (σ 82 39)) + r39.1) < 96
                        · rw [if_pos c47] at H
                          rw [zp_iastore (n := 119) (K := zx_pk (zK L) 119) (q := 92) (m := 96) (i := ((24 * (σ 82 39)) + r39.1)) (k := ((24 * (σ 82 39)) + r39.1).toNatClampNeg) (x := 9) (z := 9) zd_111_359 rfl ⟨by decide, by decide⟩ (zJ_in c47 rfl) rfl rfl]
                          rw [zs_aload_n (ls := [some (.ref 82), some (.int (24 * (σ 82 39))), some (.int r39.1)]) zd_111_360 rfl]
                          obtain ⟨r48, hr48, H⟩ := Option.bind_eq_some_iff.mp H
                          rw [zp_callVv (st := [.ref 82]) (as := [.ref 82]) (rest := []) (e := 2) zd_111_361 rfl (by decide +kernel) (by decide) rfl rfl (Nat.le_of_ble_eq_true rfl) (zx_rcb_ok rfl (show 82 < 119 by decide)) (Nat.le_of_ble_eq_true rfl) rfl (by decide) (zt_M_next hr48)]
                          exact zt_M_statement_364  H
                        · rw [if_neg c47] at H
                          cases H
                  · rw [if_neg c9] at H
                    by_cases c10 : (σ 82 8) = 10
                    · rw [if_pos c10] at H
                      rw [zs_table (x := (σ 82 8)) (off := 441) (t := 479) zd_111_38 (by rw [c10]; decide) rfl]
                      rw [zs_aload_n (ls := [some (.ref 82), some (.int (24 * (σ 82 39))), none]) zd_111_479 rfl]
                      obtain ⟨r38, hr38, H⟩ := Option.bind_eq_some_iff.mp H
                      rw [zp_callVv (st := [.ref 82]) (as := [.ref 82]) (rest := []) (e := 1) zd_111_480 rfl (by decide +kernel) (by decide) rfl rfl (Nat.le_of_ble_eq_true rfl) (zx_rcb_ok rfl (show 82 < 119 by decide)) (Nat.le_of_ble_eq_true rfl) rfl (by decide) (zt_M_cannot hr38)]
                      have H := Option.some.inj H
                      subst H
                      exact zs_return zd_111_483 (by decide +kernel)
                    · rw [if_neg c10] at H
                      by_cases c11 : (σ 82 8) = 11
                      · rw [if_pos c11] at H
                        rw [zs_table (x := (σ 82 8)) (off := 347) (t := 385) zd_111_38 (by rw [c11]; decide) rfl]
                        rw [zs_aload_n (ls := [some (.ref 82), some (.int (24 * (σ 82 39))), none]) zd_111_385 rfl]
                        rw [zs_aload_n (ls := [some (.ref 82), some (.int (24 * (σ 82 39))), none]) zd_111_386 rfl]
                        rw [zp_getI (n := 119) (K := zx_pk (zK L) 119) (σ := σ) (c := 12) (k := 8) (q := 82) (v := (σ 82 8)) zd_111_387 rfl rfl rfl (by decide) rfl]
                        rw [zs_bipush (z := 11) zd_111_390 (by decide)]
                        by_cases c37 : ¬ (σ 82 8) = 11
                        · rw [if_pos c37] at H
                          rw [zp_icmp_ne_t (x := (σ 82 8)) (y := 11) (t := 400) zd_111_392 rfl c37]
                          rw [zs_bipush (z := 11) zd_111_400 (by decide)]
                          exact zt_M_statement_402  H
                        · rw [if_neg c37] at H
                          rw [zp_icmp_ne_f (x := (σ 82 8)) (y := 11) (t := 400) zd_111_392 rfl c37]
                          rw [zs_bipush (z := 10) zd_111_395 (by decide)]
                          rw [zs_goto (t := 402) zd_111_397 rfl]
                          exact zt_M_statement_402  H
                      · rw [if_neg c11] at H
                        by_cases c12 : (σ 82 8) = 12
                        · rw [if_pos c12] at H
                          rw [zs_table (x := (σ 82 8)) (off := 347) (t := 385) zd_111_38 (by rw [c12]; decide) rfl]
                          rw [zs_aload_n (ls := [some (.ref 82), some (.int (24 * (σ 82 39))), none]) zd_111_385 rfl]
                          rw [zs_aload_n (ls := [some (.ref 82), some (.int (24 * (σ 82 39))), none]) zd_111_386 rfl]
                          rw [zp_getI (n := 119) (K := zx_pk (zK L) 119) (σ := σ) (c := 12) (k := 8) (q := 82) (v := (σ 82 8)) zd_111_387 rfl rfl rfl (by decide) rfl]
                          rw [zs_bipush (z := 11) zd_111_390 (by decide)]
                          by_cases c31 : ¬ (σ 82 8) = 11
                          · rw [if_pos c31] at H
                            rw [zp_icmp_ne_t (x := (σ 82 8)) (y := 11) (t := 400) zd_111_392 rfl c31]
                            rw [zs_bipush (z := 11) zd_111_400 (by decide)]
                            exact zt_M_statement_402  H
                          · rw [if_neg c31] at H
                            rw [zp_icmp_ne_f (x := (σ 82 8)) (y := 11) (t := 400) zd_111_392 rfl c31]
                            rw [zs_bipush (z := 10) zd_111_395 (by decide)]
                            rw [zs_goto (t := 402) zd_111_397 rfl]
                            exact zt_M_statement_402  H
                        · rw [if_neg c12] at H
                          by_cases c13 : (σ 82 8) = 13
                          · rw [if_pos c13] at H
                            rw [zs_table (x := (σ 82 8)) (off := 394) (t := 432) zd_111_38 (by rw [c13]; decide) rfl]
                            rw [zs_aload_n (ls := [some (.ref 82), some (.int (24 * (σ 82 39))), none]) zd_111_432 rfl]
                            rw [zs_bipush (z := 12) zd_111_433 (by decide)]
                            rw [zs_iconst (z := (-1)) zd_111_435 (by decide)]
                            obtain ⟨r27, hr27, H⟩ := Option.bind_eq_some_iff.mp H
                            rw [zp_callVi (x := r27.1) (st := [.int (-1), .int 12, .ref 82]) (as := [.ref 82, .int 12, .int (-1)]) (rest := []) (e := 1) zd_111_436 rfl (by decide +kernel) (by decide) rfl rfl (Nat.le_of_ble_eq_true rfl) (zx_rcb_ok rfl (show 82 < 119 by decide)) (Nat.le_of_ble_eq_true rfl) rfl (by decide) (zt_M_addStep hr27)]
                            rw [zs_istore_n (x := r27.1) (ls' := [some (.ref 82), some (.int (24 * (σ 82 39))), some (.int r27.1)]) zd_111_439 (Nat.le_of_ble_eq_true rfl) rfl]
                            rw [zs_aload_n (ls := [some (.ref 82), some (.int (24 * (σ 82 39))), some (.int r27.1)]) zd_111_440 rfl]
                            obtain ⟨r28, hr28, H⟩ := Option.bind_eq_some_iff.mp H
                            rw [zp_callVv (st := [.ref 82]) (as := [.ref 82]) (rest := []) (e := 3) zd_111_441 rfl (by decide +kernel) (by decide) rfl rfl (Nat.le_of_ble_eq_true rfl) (zx_rcb_ok rfl (show 82 < 119 by decide)) (Nat.le_of_ble_eq_true rfl) rfl (by decide) (zt_M_nextIfWell hr28)]
                            rw [zs_aload_n (ls := [some (.ref 82), some (.int (24 * (σ 82 39))), some (.int r27.1)]) zd_111_444 rfl]
                            rw [zs_iload_n (ls := [some (.ref 82), some (.int (24 * (σ 82 39))), some (.int r27.1)]) zd_111_445 rfl]
                            obtain ⟨r29, hr29, H⟩ := Option.bind_eq_some_iff.mp H
                            rw [zp_callVv (st := [.int r27.1, .ref 82]) (as := [.ref 82, .int r27.1]) (rest := []) (e := 4) zd_111_446 rfl (by decide +kernel) (by decide) rfl rfl (Nat.le_of_ble_eq_true rfl) (zx_rcb_ok rfl (show 82 < 119 by decide)) (Nat.le_of_ble_eq_true rfl) rfl (by decide) (zt_M_test hr29)]
                            rw [zs_aload_n (ls := [some (.ref 82), some (.int (24 * (σ 82 39))), some (.int r27.1)]) zd_111_449 rfl]
                            rw [zs_bipush (z := 59) zd_111_450 (by decide)]
                            obtain ⟨r30, hr30, H⟩ := Option.bind_eq_some_iff.mp H
                            rw [zp_callVv (st := [.int 59, .ref 82]) (as := [.ref 82, .int 59]) (rest := []) (e := 3) zd_111_452 rfl (by decide +kernel) (by decide) rfl rfl (Nat.le_of_ble_eq_true rfl) (zx_rcb_ok rfl (show 82 < 119 by decide)) (Nat.le_of_ble_eq_true rfl) rfl (by decide) (zt_M_take hr30)]
                            rw [zs_goto (t := 483) zd_111_455 rfl]
                            have H := Option.some.inj H
                            subst H
                            exact zs_return zd_111_483 (by decide +kernel)
                          · rw [if_neg c13] at H
                            by_cases c14 : (σ 82 8) = 14
                            · rw [if_pos c14] at H
                              rw [zs_table (x := (σ 82 8)) (off := 420) (t := 458) zd_111_38 (by rw [c14]; decide) rfl]
                              rw [zs_aload_n (ls := [some (.ref 82), some (.int (24 * (σ 82 39))), none]) zd_111_458 rfl]
                              rw [zs_bipush (z := 13) zd_111_459 (by decide)]
                              rw [zs_iconst (z := (-1)) zd_111_461 (by decide)]
                              obtain ⟨r24, hr24, H⟩ := Option.bind_eq_some_iff.mp H
                              rw [zp_callVi (x := r24.1) (st := [.int (-1), .int 13, .ref 82]) (as := [.ref 82, .int 13, .int (-1)]) (rest := []) (e := 1) zd_111_462 rfl (by decide +kernel) (by decide) rfl rfl (Nat.le_of_ble_eq_true rfl) (zx_rcb_ok rfl (show 82 < 119 by decide)) (Nat.le_of_ble_eq_true rfl) rfl (by decide) (zt_M_addStep hr24)]
                              rw [zs_istore_n (x := r24.1) (ls' := [some (.ref 82), some (.int (24 * (σ 82 39))), some (.int r24.1)]) zd_111_465 (Nat.le_of_ble_eq_true rfl) rfl]
                              rw [zs_aload_n (ls := [some (.ref 82), some (.int (24 * (σ 82 39))), some (.int r24.1)]) zd_111_466 rfl]
                              obtain ⟨r25, hr25, H⟩ := Option.bind_eq_some_iff.mp H
                              rw [zp_callVv (st := [.ref 82]) (as := [.ref 82]) (rest := []) (e := 3) zd_111_467 rfl (by decide +kernel) (by decide) rfl rfl (Nat.le_of_ble_eq_true rfl) (zx_rcb_ok rfl (show 82 < 119 by decide)) (Nat.le_of_ble_eq_true rfl) rfl (by decide) (zt_M_nextIfWell hr25)]
                              rw [zs_aload_n (ls := [some (.ref 82), some (.int (24 * (σ 82 39))), some (.int r24.1)]) zd_111_470 rfl]
                              rw [zs_bipush (z := 59) zd_111_471 (by decide)]
                              obtain ⟨r26, hr26, H⟩ := Option.bind_eq_some_iff.mp H
                              rw [zp_callVv (st := [.int 59, .ref 82]) (as := [.ref 82, .int 59]) (rest := []) (e := 3) zd_111_473 rfl (by decide +kernel) (by decide) rfl rfl (Nat.le_of_ble_eq_true rfl) (zx_rcb_ok rfl (show 82 < 119 by decide)) (Nat.le_of_ble_eq_true rfl) rfl (by decide) (zt_M_take hr26)]
                              rw [zs_goto (t := 483) zd_111_476 rfl]
                              have H := Option.some.inj H
                              subst H
                              exact zs_return zd_111_483 (by decide +kernel)
                            · rw [if_neg c14] at H
                              by_cases c15 : (σ 82 8) = 15
                              · rw [if_pos c15] at H
                                rw [zs_table (x := (σ 82 8)) (off := 124) (t := 162) zd_111_38 (by rw [c15]; decide) rfl]
                                rw [zs_aload_n (ls := [some (.ref 82), some (.int (24 * (σ 82 39))), none]) zd_111_162 rfl]
                                rw [zp_getI (n := 119) (K := zx_pk (zK L) 119) (σ := σ) (c := 12) (k := 41) (q := 82) (v := (σ 82 41)) zd_111_163 rfl rfl rfl (by decide) rfl]
                                rw [zs_iconst (z := (-1)) zd_111_166 (by decide)]
                                by_cases c17 : (σ 82 41) = (-1)
                                · rw [if_pos c17] at H
                                  rw [zp_icmp_eq_t (x := (σ 82 41)) (y := (-1)) (t := 177) zd_111_167 rfl c17]
                                  rw [zs_aload_n (ls := [some (.ref 82), some (.int (24 * (σ 82 39))), none]) zd_111_177 rfl]
                                  rw [zp_getI (n := 119) (K := zx_pk (zK L) 119) (σ := σ) (c := 12) (k := 25) (q := 82) (v := (σ 82 25)) zd_111_178 rfl rfl rfl (by decide) rfl]
                                  rw [zs_bipush (z := 6) zd_111_181 (by decide)]
                                  by_cases c18 : ¬ (σ 82 25) = 6
                                  · rw [if_pos c18] at H
                                    rw [zp_icmp_ne_t (x := (σ 82 25)) (y := 6) (t := 194) zd_111_183 rfl c18]
                                    rw [zs_aload_n (ls := [some (.ref 82), some (.int (24 * (σ 82 39))), none]) zd_111_194 rfl]
                                    obtain ⟨r19, hr19, H⟩ := Option.bind_eq_some_iff.mp H
                                    rw [zp_callVv (st := [.ref 82]) (as := [.ref 82]) (rest := []) (e := 2) zd_111_195 rfl (by decide +kernel) (by decide) rfl rfl (Nat.le_of_ble_eq_true rfl) (zx_rcb_ok rfl (show 82 < 119 by decide)) (Nat.le_of_ble_eq_true rfl) rfl (by decide) (zt_M_next hr19)]
                                    rw [zs_aload_n (ls := [some (.ref 82), some (.int (24 * (σ 82 39))), none]) zd_111_198 rfl]
                                    rw [zs_iconst (z := 2) zd_111_199 (by decide)]
                                    rw [zs_iconst (z := 0) zd_111_200 (by decide)]
                                    obtain ⟨r20, hr20, H⟩ := Option.bind_eq_some_iff.mp H
                                    rw [zp_callVv (st := [.int 0, .int 2, .ref 82]) (as := [.ref 82, .int 2, .int 0]) (rest := []) (e := 3) zd_111_201 rfl (by decide +kernel) (by decide) rfl rfl (Nat.le_of_ble_eq_true rfl) (zx_rcb_ok rfl (show 82 < 119 by decide)) (Nat.le_of_ble_eq_true rfl) rfl (by decide) (zt_M_openBlock hr20)]
                                    rw [zs_aload_n (ls := [some (.ref 82), some (.int (24 * (σ 82 39))), none]) zd_111_204 rfl]
                                    rw [zs_aload_n (ls := [some (.ref 82), some (.int (24 * (σ 82 39))), none]) zd_111_205 rfl]
                                    rw [zp_getI (n := 119) (K := zx_pk (zK L) 119) (σ := r20) (c := 12) (k := 25) (q := 82) (v := (r20 82 25)) zd_111_206 rfl rfl rfl (by decide) rfl]
                                    rw [zs_putI (n := 119) (K := zx_pk (zK L) 119) (c := 12) (k := 41) (q := 82) (x := (r20 82 25)) zd_111_209 rfl rfl (by decide +kernel) rfl (by decide)]
                                    rw [zs_aload_n (ls := [some (.ref 82), some (.int (24 * (σ 82 39))), none]) zd_111_212 rfl]
                                    rw [zs_getR (n := 119) (K := zx_pk (zK L) 119) (ρ := zR) (c := 12) (k := 26) (q := 82) (p := 91) zd_111_213 rfl rfl rfl (by decide) rfl]
                                    rw [zs_aload_n (ls := [some (.ref 82), some (.int (24 * (σ 82 39))), none]) zd_111_216 rfl]
                                    rw [zp_getI (n := 119) (K := zx_pk (zK L) 119) (σ := (zx_up r20 82 41 (r20 82 25))) (c := 12) (k := 25) (q := 82) (v := (r20 82 25)) zd_111_217 rfl rfl rfl (by decide) (show ((zx_up r20 82 41 (r20 82 25)) : zS) 82 25 = (r20 82 25) from ((zx_up_nj (by decide)).trans rfl))]
                                    rw [zs_aload_n (ls := [some (.ref 82), some (.int (24 * (σ 82 39))), none]) zd_111_220 rfl]
                                    rw [zp_getI (n := 119) (K := zx_pk (zK L) 119) (σ := (zx_up r20 82 41 (r20 82 25))) (c := 12) (k := 39) (q := 82) (v := (r20 82 39)) zd_111_221 rfl rfl rfl (by decide) (show ((zx_up r20 82 41 (r20 82 25)) : zS) 82 39 = (r20 82 39) from ((zx_up_nj (by decide)).trans rfl))]
                                    by_cases c21 : 0 ≤ (r20 82 25) ∧ (r20 82 25) < 6
                                    · rw [if_pos c21] at H
                                      rw [zp_iastore (n := 119) (K := zx_pk (zK L) 119) (q := 91) (m := 6) (i := (r20 82 25)) (k := (r20 82 25).toNatClampNeg) (x := (r20 82 39)) (z := (r20 82 39)) zd_111_224 rfl ⟨by decide, by decide⟩ (zJ_in c21 rfl) rfl rfl]
                                      rw [zs_aload_n (ls := [some (.ref 82), some (.int (24 * (σ 82 39))), none]) zd_111_225 rfl]
                                      rw [zs_dup (a := .ref 82) zd_111_226 rfl]
                                      rw [zp_getI (n := 119) (K := zx_pk (zK L) 119) (σ := (zx_up (zx_up r20 82 41 (r20 82 25)) 91 (r20 82 25).toNatClampNeg (r20 82 39))) (c := 12) (k := 25) (q := 82) (v := (r20 82 25)) zd_111_227 rfl rfl rfl (by decide) (show ((zx_up (zx_up r20 82 41 (r20 82 25)) 91 (r20 82 25).toNatClampNeg (r20 82 39)) : zS) 82 25 = (r20 82 25) from ((zx_up_ne (by decide)).trans ((zx_up_nj (by decide)).trans rfl)))]
                                      rw [zs_iconst (z := 1) zd_111_230 (by decide)]
                                      rw [zp_iadd (x := (r20 82 25)) (y := 1) (z := ((r20 82 25) + 1)) zd_111_231 rfl]
                                      rw [zs_putI (n := 119) (K := zx_pk (zK L) 119) (c := 12) (k := 25) (q := 82) (x := ((r20 82 25) + 1)) zd_111_232 rfl rfl (by decide +kernel) rfl (by decide)]
                                      rw [zs_goto (t := 483) zd_111_235 rfl]
                                      have H := Option.some.inj H
                                      subst H
                                      exact zs_return zd_111_483 (by decide +kernel)
                                    · rw [if_neg c21] at H
                                      cases H
                                  · rw [if_neg c18] at H
                                    rw [zp_icmp_ne_f (x := (σ 82 25)) (y := 6) (t := 194) zd_111_183 rfl c18]
                                    rw [zs_aload_n (ls := [some (.ref 82), some (.int (24 * (σ 82 39))), none]) zd_111_186 rfl]
                                    rw [zs_iconst (z := 4) zd_111_187 (by decide)]
                                    obtain ⟨r22, hr22, H⟩ := Option.bind_eq_some_iff.mp H
                                    rw [zp_callVv (st := [.int 4, .ref 82]) (as := [.ref 82, .int 4]) (rest := []) (e := 0) zd_111_188 rfl (by decide +kernel) (by decide) rfl rfl (Nat.le_of_ble_eq_true rfl) (zx_rcb_ok rfl (show 82 < 119 by decide)) (Nat.le_of_ble_eq_true rfl) rfl (by decide) (zt_M_fail hr22)]
                                    rw [zs_goto (t := 483) zd_111_191 rfl]
                                    have H := Option.some.inj H
                                    subst H
                                    exact zs_return zd_111_483 (by decide +kernel)
                                · rw [if_neg c17] at H
                                  rw [zp_icmp_eq_f (x := (σ 82 41)) (y := (-1)) (t := 177) zd_111_167 rfl c17]
                                  rw [zs_aload_n (ls := [some (.ref 82), some (.int (24 * (σ 82 39))), none]) zd_111_170 rfl]
                                  obtain ⟨r23, hr23, H⟩ := Option.bind_eq_some_iff.mp H
                                  rw [zp_callVv (st := [.ref 82]) (as := [.ref 82]) (rest := []) (e := 1) zd_111_171 rfl (by decide +kernel) (by decide) rfl rfl (Nat.le_of_ble_eq_true rfl) (zx_rcb_ok rfl (show 82 < 119 by decide)) (Nat.le_of_ble_eq_true rfl) rfl (by decide) (zt_M_cannot hr23)]
                                  rw [zs_goto (t := 483) zd_111_174 rfl]
                                  have H := Option.some.inj H
                                  subst H
                                  exact zs_return zd_111_483 (by decide +kernel)
                              · rw [if_neg c15] at H
                                rw [zs_table (x := (σ 82 8)) (off := 441) (t := 479) zd_111_38 (if_pos (by have e : ∀ z : Int32, ¬ (σ 82 8) = z → ¬ ((σ 82 8) : Int32).toInt = z.toInt := fun z h q => h (Int32.toInt_inj.mp q); have q0 := e 3 c3; have q1 := e 4 c4; have q2 := e 5 c5; have q3 := e 6 c6; have q4 := e 7 c7; have q5 := e 8 c8; have q6 := e 9 c9; have q7 := e 10 c10; have q8 := e 11 c11; have q9 := e 12 c12; have q10 := e 13 c13; have q11 := e 14 c14; have q12 := e 15 c15; simp only [show (10 : Int32).toInt = 10 from rfl, show (11 : Int32).toInt = 11 from rfl, show (12 : Int32).toInt = 12 from rfl, show (13 : Int32).toInt = 13 from rfl, show (14 : Int32).toInt = 14 from rfl, show (15 : Int32).toInt = 15 from rfl, show (3 : Int32).toInt = 3 from rfl, show (4 : Int32).toInt = 4 from rfl, show (5 : Int32).toInt = 5 from rfl, show (6 : Int32).toInt = 6 from rfl, show (7 : Int32).toInt = 7 from rfl, show (8 : Int32).toInt = 8 from rfl, show (9 : Int32).toInt = 9 from rfl] at q0 q1 q2 q3 q4 q5 q6 q7 q8 q9 q10 q11 q12; omega)) rfl]
                                rw [zs_aload_n (ls := [some (.ref 82), some (.int (24 * (σ 82 39))), none]) zd_111_479 rfl]
                                obtain ⟨r16, hr16, H⟩ := Option.bind_eq_some_iff.mp H
                                rw [zp_callVv (st := [.ref 82]) (as := [.ref 82]) (rest := []) (e := 1) zd_111_480 rfl (by decide +kernel) (by decide) rfl rfl (Nat.le_of_ble_eq_true rfl) (zx_rcb_ok rfl (show 82 < 119 by decide)) (Nat.le_of_ble_eq_true rfl) rfl (by decide) (zt_M_cannot hr16)]
                                have H := Option.some.inj H
                                subst H
                                exact zs_return zd_111_483 (by decide +kernel)
    · rw [if_neg c2] at H
      rw [zp_icmp_eq_f (x := (σ 82 7)) (y := 5) (t := 34) zd_111_26 rfl c2]
      rw [zs_aload_n (ls := [some (.ref 82), some (.int (24 * (σ 82 39))), none]) zd_111_29 rfl]
      obtain ⟨r71, hr71, H⟩ := Option.bind_eq_some_iff.mp H
      rw [zp_callVv (st := [.ref 82]) (as := [.ref 82]) (rest := []) (e := 1) zd_111_30 rfl (by decide +kernel) (by decide) rfl rfl (Nat.le_of_ble_eq_true rfl) (zx_rcb_ok rfl (show 82 < 119 by decide)) (Nat.le_of_ble_eq_true rfl) rfl (by decide) (zt_M_cannot hr71)]
      have H := Option.some.inj H
      subst H
      exact zs_return zd_111_33 (by decide +kernel)
  · rw [if_neg c1] at H
    rw [zp_icmp_ne_f (x := (σ 82 7)) (y := 2) (t := 21) zd_111_13 rfl c1]
    rw [zs_aload_n (ls := [some (.ref 82), some (.int (24 * (σ 82 39))), none]) zd_111_16 rfl]
    obtain ⟨r72, hr72, H⟩ := Option.bind_eq_some_iff.mp H
    rw [zp_callVv (st := [.ref 82]) (as := [.ref 82]) (rest := []) (e := 4) zd_111_17 rfl (by decide +kernel) (by decide) rfl rfl (Nat.le_of_ble_eq_true rfl) (zx_rcb_ok rfl (show 82 < 119 by decide)) (Nat.le_of_ble_eq_true rfl) rfl (by decide) (zt_M_assign hr72)]
    have H := Option.some.inj H
    subst H
    exact zs_return zd_111_20 (by decide +kernel)
set_option maxRecDepth 20000 in
theorem zt_M_joinOpen_8 {a b L N : Nat} : ∀ {n : Nat} {σ : zS} {τ : zT} {v1 : Int32} {v2 : Int32} {r : zS}, zb_M_joinOpen_8 N n σ v1 v2 = some r → zx_go 0 110 8 [some (.ref 82), some (.int v1), some (.int v2)] [] ((119, a, b), zx_pk (zK L) 119, σ, τ, zR) = some (none, ((119, a, b), zx_pk (zK L) 119, r, τ, zR)) := by
  intro n
  induction n with
  | zero =>
    intro _ _ _ _ _ H
    cases H
  | succ n ih =>
    intro σ τ v1 v2 r H
    rw [zb_M_joinOpen_8] at H
    rw [zs_aload_n (ls := [some (.ref 82), some (.int v1), some (.int v2)]) zd_110_8 rfl]
    rw [zs_getR (n := 119) (K := zx_pk (zK L) 119) (ρ := zR) (c := 12) (k := 38) (q := 82) (p := 102) zd_110_9 rfl rfl rfl (by decide) rfl]
    rw [zs_iload_n (ls := [some (.ref 82), some (.int v1), some (.int v2)]) zd_110_12 rfl]
    by_cases c2 : 0 ≤ v2 ∧ v2 < 48
    · rw [if_pos c2] at H
      rw [zp_iaload (n := 119) (K := zx_pk (zK L) 119) (σ := σ) (q := 102) (m := 48) (i := v2) (k := v2.toNatClampNeg) (v := (σ 102 v2.toNatClampNeg)) zd_110_13 rfl (by decide) (zJ_in c2 rfl) rfl rfl]
      rw [zs_iconst (z := (-1)) zd_110_14 (by decide)]
      by_cases c3 : (σ 102 v2.toNatClampNeg) = (-1)
      · rw [if_pos c3] at H
        rw [zp_icmp_eq_t (x := (σ 102 v2.toNatClampNeg)) (y := (-1)) (t := 28) zd_110_15 rfl c3]
        rw [zs_aload_n (ls := [some (.ref 82), some (.int v1), some (.int v2)]) zd_110_28 rfl]
        rw [zs_getR (n := 119) (K := zx_pk (zK L) 119) (ρ := zR) (c := 12) (k := 38) (q := 82) (p := 102) zd_110_29 rfl rfl rfl (by decide) rfl]
        rw [zs_iload_n (ls := [some (.ref 82), some (.int v1), some (.int v2)]) zd_110_32 rfl]
        rw [zs_aload_n (ls := [some (.ref 82), some (.int v1), some (.int v2)]) zd_110_33 rfl]
        rw [zp_getI (n := 119) (K := zx_pk (zK L) 119) (σ := σ) (c := 12) (k := 37) (q := 82) (v := (σ 82 37)) zd_110_34 rfl rfl rfl (by decide) rfl]
        by_cases c4 : 0 ≤ v2 ∧ v2 < 48
        · rw [if_pos c4] at H
          rw [zp_iastore (n := 119) (K := zx_pk (zK L) 119) (q := 102) (m := 48) (i := v2) (k := v2.toNatClampNeg) (x := (σ 82 37)) (z := (σ 82 37)) zd_110_37 rfl ⟨by decide, by decide⟩ (zJ_in c4 rfl) rfl rfl]
          rw [zs_aload_n (ls := [some (.ref 82), some (.int v1), some (.int v2)]) zd_110_38 rfl]
          rw [zs_iload_n (ls := [some (.ref 82), some (.int v1), some (.int v2)]) zd_110_39 rfl]
          rw [zs_putI (n := 119) (K := zx_pk (zK L) 119) (c := 12) (k := 37) (q := 82) (x := v1) zd_110_40 rfl rfl (by decide +kernel) rfl (by decide)]
          have H := Option.some.inj H
          subst H
          exact zs_return zd_110_43 (by decide +kernel)
        · rw [if_neg c4] at H
          cases H
      · rw [if_neg c3] at H
        rw [zp_icmp_eq_f (x := (σ 102 v2.toNatClampNeg)) (y := (-1)) (t := 28) zd_110_15 rfl c3]
        rw [zs_aload_n (ls := [some (.ref 82), some (.int v1), some (.int v2)]) zd_110_18 rfl]
        rw [zs_getR (n := 119) (K := zx_pk (zK L) 119) (ρ := zR) (c := 12) (k := 38) (q := 82) (p := 102) zd_110_19 rfl rfl rfl (by decide) rfl]
        rw [zs_iload_n (ls := [some (.ref 82), some (.int v1), some (.int v2)]) zd_110_22 rfl]
        by_cases c5 : 0 ≤ v2 ∧ v2 < 48
        · rw [if_pos c5] at H
          rw [zp_iaload (n := 119) (K := zx_pk (zK L) 119) (σ := σ) (q := 102) (m := 48) (i := v2) (k := v2.toNatClampNeg) (v := (σ 102 v2.toNatClampNeg)) zd_110_23 rfl (by decide) (zJ_in c5 rfl) rfl rfl]
          rw [zs_istore_n (x := (σ 102 v2.toNatClampNeg)) (ls' := [some (.ref 82), some (.int v1), some (.int (σ 102 v2.toNatClampNeg))]) zd_110_24 (Nat.le_of_ble_eq_true rfl) rfl]
          rw [zs_goto (t := 8) zd_110_25 rfl]
          exact ih H
        · rw [if_neg c5] at H
          cases H
    · rw [if_neg c2] at H
      cases H
set_option maxRecDepth 20000 in
theorem zt_M_joinOpen {a b L N : Nat} {σ : zS} {τ : zT} {x1 : Int32} {r : zS} (H : zf_M_joinOpen N σ x1 = some r) : zx_go 0 110 0 [some (.ref 82), some (.int x1), none] [] ((119, a, b), zx_pk (zK L) 119, σ, τ, zR) = some (none, ((119, a, b), zx_pk (zK L) 119, r, τ, zR)) := by
  unfold zf_M_joinOpen at H
  rw [zs_iload_n (ls := [some (.ref 82), some (.int x1), none]) zd_110_0 rfl]
  rw [zs_iconst (z := (-1)) zd_110_1 (by decide)]
  by_cases c1 : ¬ x1 = (-1)
  · rw [if_pos c1] at H
    rw [zp_icmp_ne_t (x := x1) (y := (-1)) (t := 6) zd_110_2 rfl c1]
    rw [zs_iload_n (ls := [some (.ref 82), some (.int x1), none]) zd_110_6 rfl]
    rw [zs_istore_n (x := x1) (ls' := [some (.ref 82), some (.int x1), some (.int x1)]) zd_110_7 (Nat.le_of_ble_eq_true rfl) rfl]
    exact zt_M_joinOpen_8  H
  · rw [if_neg c1] at H
    rw [zp_icmp_ne_f (x := x1) (y := (-1)) (t := 6) zd_110_2 rfl c1]
    have H := Option.some.inj H
    subst H
    exact zs_return zd_110_5 (by decide +kernel)
set_option maxRecDepth 20000 in
theorem zt_M_closeBlock_177 {a b L N : Nat} {σ : zS} {τ : zT} {v1 : Int32} {o2 : Option Value} {o3 : Option Value} {r : zS} (H : zb_M_closeBlock_177 N σ v1 = some r) : zx_go 4 106 177 [some (.ref 82), some (.int v1), o2, o3] [] ((119, a, b), zx_pk (zK L) 119, σ, τ, zR) = some (none, ((119, a, b), zx_pk (zK L) 119, r, τ, zR)) := by
  unfold zb_M_closeBlock_177 at H
  rw [zs_aload_n (ls := [some (.ref 82), some (.int v1), o2, o3]) zd_106_177 rfl]
  rw [zs_dup (a := .ref 82) zd_106_178 rfl]
  rw [zp_getI (n := 119) (K := zx_pk (zK L) 119) (σ := σ) (c := 12) (k := 46) (q := 82) (v := (σ 82 46)) zd_106_179 rfl rfl rfl (by decide) rfl]
  rw [zs_iconst (z := 1) zd_106_182 (by decide)]
  rw [zp_isub (x := (σ 82 46)) (y := 1) (z := ((σ 82 46) - 1)) zd_106_183 rfl]
  rw [zs_putI (n := 119) (K := zx_pk (zK L) 119) (c := 12) (k := 46) (q := 82) (x := ((σ 82 46) - 1)) zd_106_184 rfl rfl (by decide +kernel) rfl (by decide)]
  rw [zs_aload_n (ls := [some (.ref 82), some (.int v1), o2, o3]) zd_106_187 rfl]
  obtain ⟨r7, hr7, H⟩ := Option.bind_eq_some_iff.mp H
  rw [zp_callVv (st := [.ref 82]) (as := [.ref 82]) (rest := []) (e := 2) zd_106_188 rfl (by decide +kernel) (by decide) rfl rfl (Nat.le_of_ble_eq_true rfl) (zx_rcb_ok rfl (show 82 < 119 by decide)) (Nat.le_of_ble_eq_true rfl) rfl (by decide) (zt_M_next hr7)]
  rw [zs_aload_n (ls := [some (.ref 82), some (.int v1), o2, o3]) zd_106_191 rfl]
  rw [zs_getR (n := 119) (K := zx_pk (zK L) 119) (ρ := zR) (c := 12) (k := 42) (q := 82) (p := 103) zd_106_192 rfl rfl rfl (by decide) rfl]
  rw [zs_iload_n (ls := [some (.ref 82), some (.int v1), o2, o3]) zd_106_195 rfl]
  by_cases c8 : 0 ≤ v1 ∧ v1 < 10
  · rw [if_pos c8] at H
    rw [zp_iaload (n := 119) (K := zx_pk (zK L) 119) (σ := r7) (q := 103) (m := 10) (i := v1) (k := v1.toNatClampNeg) (v := (r7 103 v1.toNatClampNeg)) zd_106_196 rfl (by decide) (zJ_in c8 rfl) rfl rfl]
    rw [zs_iconst (z := 3) zd_106_197 (by decide)]
    by_cases c9 : ¬ (r7 103 v1.toNatClampNeg) = 3
    · rw [if_pos c9] at H
      rw [zp_icmp_ne_t (x := (r7 103 v1.toNatClampNeg)) (y := 3) (t := 270) zd_106_198 rfl c9]
      have H := Option.some.inj H
      subst H
      exact zs_return zd_106_270 (by decide +kernel)
    · rw [if_neg c9] at H
      rw [zp_icmp_ne_f (x := (r7 103 v1.toNatClampNeg)) (y := 3) (t := 270) zd_106_198 rfl c9]
      rw [zs_aload_n (ls := [some (.ref 82), some (.int v1), o2, o3]) zd_106_201 rfl]
      rw [zs_bipush (z := 6) zd_106_202 (by decide)]
      obtain ⟨r10, hr10, H⟩ := Option.bind_eq_some_iff.mp H
      rw [zp_callVi (x := r10) (st := [.int 6, .ref 82]) (as := [.ref 82, .int 6]) (rest := []) (e := 0) zd_106_204 rfl (by decide +kernel) (by decide) rfl rfl (Nat.le_of_ble_eq_true rfl) (zx_rcb_ok rfl (show 82 < 119 by decide)) (Nat.le_of_ble_eq_true rfl) rfl (by decide) (zt_M_isWord hr10)]
      by_cases c11 : r10 = 0
      · rw [if_pos c11] at H
        rw [zp_if_eq_t (x := r10) (t := 255) zd_106_207 rfl c11]
        rw [zs_aload_n (ls := [some (.ref 82), some (.int v1), o2, o3]) zd_106_255 rfl]
        rw [zs_aload_n (ls := [some (.ref 82), some (.int v1), o2, o3]) zd_106_256 rfl]
        rw [zs_aload_n (ls := [some (.ref 82), some (.int v1), o2, o3]) zd_106_257 rfl]
        rw [zs_getR (n := 119) (K := zx_pk (zK L) 119) (ρ := zR) (c := 12) (k := 43) (q := 82) (p := 104) zd_106_258 rfl rfl rfl (by decide) rfl]
        rw [zs_iload_n (ls := [some (.ref 82), some (.int v1), o2, o3]) zd_106_261 rfl]
        by_cases c12 : 0 ≤ v1 ∧ v1 < 10
        · rw [if_pos c12] at H
          rw [zp_iaload (n := 119) (K := zx_pk (zK L) 119) (σ := r7) (q := 104) (m := 10) (i := v1) (k := v1.toNatClampNeg) (v := (r7 104 v1.toNatClampNeg)) zd_106_262 rfl (by decide) (zJ_in c12 rfl) rfl rfl]
          rw [zs_iconst (z := 1) zd_106_263 (by decide)]
          obtain ⟨r13, hr13, H⟩ := Option.bind_eq_some_iff.mp H
          rw [zp_callVi (x := r13.1) (st := [.int 1, .int (r7 104 v1.toNatClampNeg), .ref 82, .ref 82]) (as := [.ref 82, .int (r7 104 v1.toNatClampNeg), .int 1]) (rest := [.ref 82]) (e := 0) zd_106_264 rfl (by decide +kernel) (by decide) rfl rfl (Nat.le_of_ble_eq_true rfl) (zx_rcb_ok rfl (show 82 < 119 by decide)) (Nat.le_of_ble_eq_true rfl) rfl (by decide) (zt_M_wayOf hr13)]
          obtain ⟨r14, hr14, H⟩ := Option.bind_eq_some_iff.mp H
          rw [zp_callVv (st := [.int r13.1, .ref 82]) (as := [.ref 82, .int r13.1]) (rest := []) (e := 0) zd_106_267 rfl (by decide +kernel) (by decide) rfl rfl (Nat.le_of_ble_eq_true rfl) (zx_rcb_ok rfl (show 82 < 119 by decide)) (Nat.le_of_ble_eq_true rfl) rfl (by decide) (zt_M_joinOpen hr14)]
          have H := Option.some.inj H
          subst H
          exact zs_return zd_106_270 (by decide +kernel)
        · rw [if_neg c12] at H
          cases H
      · rw [if_neg c11] at H
        rw [zp_if_eq_f (x := r10) (t := 255) zd_106_207 rfl c11]
        rw [zs_aload_n (ls := [some (.ref 82), some (.int v1), o2, o3]) zd_106_210 rfl]
        obtain ⟨r15, hr15, H⟩ := Option.bind_eq_some_iff.mp H
        rw [zp_callVv (st := [.ref 82]) (as := [.ref 82]) (rest := []) (e := 2) zd_106_211 rfl (by decide +kernel) (by decide) rfl rfl (Nat.le_of_ble_eq_true rfl) (zx_rcb_ok rfl (show 82 < 119 by decide)) (Nat.le_of_ble_eq_true rfl) rfl (by decide) (zt_M_next hr15)]
        rw [zs_aload_n (ls := [some (.ref 82), some (.int v1), o2, o3]) zd_106_214 rfl]
        rw [zp_getI (n := 119) (K := zx_pk (zK L) 119) (σ := r15) (c := 12) (k := 37) (q := 82) (v := (r15 82 37)) zd_106_215 rfl rfl rfl (by decide) rfl]
        rw [zs_istore_n (x := (r15 82 37)) (ls' := [some (.ref 82), some (.int v1), (zJ_cl o2), some (.int (r15 82 37))]) zd_106_218 (Nat.le_of_ble_eq_true rfl) (zJ_s1 (k := 2) (o := o2) rfl)]
        rw [zs_aload_n (ls := [some (.ref 82), some (.int v1), (zJ_cl o2), some (.int (r15 82 37))]) zd_106_219 rfl]
        rw [zs_aload_n (ls := [some (.ref 82), some (.int v1), (zJ_cl o2), some (.int (r15 82 37))]) zd_106_220 rfl]
        rw [zs_aload_n (ls := [some (.ref 82), some (.int v1), (zJ_cl o2), some (.int (r15 82 37))]) zd_106_221 rfl]
        rw [zs_getR (n := 119) (K := zx_pk (zK L) 119) (ρ := zR) (c := 12) (k := 43) (q := 82) (p := 104) zd_106_222 rfl rfl rfl (by decide) rfl]
        rw [zs_iload_n (ls := [some (.ref 82), some (.int v1), (zJ_cl o2), some (.int (r15 82 37))]) zd_106_225 rfl]
        by_cases c16 : 0 ≤ v1 ∧ v1 < 10
        · rw [if_pos c16] at H
          rw [zp_iaload (n := 119) (K := zx_pk (zK L) 119) (σ := r15) (q := 104) (m := 10) (i := v1) (k := v1.toNatClampNeg) (v := (r15 104 v1.toNatClampNeg)) zd_106_226 rfl (by decide) (zJ_in c16 rfl) rfl rfl]
          rw [zs_iconst (z := 1) zd_106_227 (by decide)]
          obtain ⟨r17, hr17, H⟩ := Option.bind_eq_some_iff.mp H
          rw [zp_callVi (x := r17.1) (st := [.int 1, .int (r15 104 v1.toNatClampNeg), .ref 82, .ref 82]) (as := [.ref 82, .int (r15 104 v1.toNatClampNeg), .int 1]) (rest := [.ref 82]) (e := 0) zd_106_228 rfl (by decide +kernel) (by decide) rfl rfl (Nat.le_of_ble_eq_true rfl) (zx_rcb_ok rfl (show 82 < 119 by decide)) (Nat.le_of_ble_eq_true rfl) rfl (by decide) (zt_M_wayOf hr17)]
          rw [zs_putI (n := 119) (K := zx_pk (zK L) 119) (c := 12) (k := 37) (q := 82) (x := r17.1) zd_106_231 rfl rfl (by decide +kernel) rfl (by decide)]
          rw [zs_aload_n (ls := [some (.ref 82), some (.int v1), (zJ_cl o2), some (.int (r15 82 37))]) zd_106_234 rfl]
          rw [zs_iconst (z := 4) zd_106_235 (by decide)]
          rw [zs_aload_n (ls := [some (.ref 82), some (.int v1), (zJ_cl o2), some (.int (r15 82 37))]) zd_106_236 rfl]
          rw [zs_getR (n := 119) (K := zx_pk (zK L) 119) (ρ := zR) (c := 12) (k := 43) (q := 82) (p := 104) zd_106_237 rfl rfl rfl (by decide) rfl]
          rw [zs_iload_n (ls := [some (.ref 82), some (.int v1), (zJ_cl o2), some (.int (r15 82 37))]) zd_106_240 rfl]
          by_cases c18 : 0 ≤ v1 ∧ v1 < 10
          · rw [if_pos c18] at H
            rw [zp_iaload (n := 119) (K := zx_pk (zK L) 119) (σ := (zx_up r17.2 82 37 r17.1)) (q := 104) (m := 10) (i := v1) (k := v1.toNatClampNeg) (v := (r17.2 104 v1.toNatClampNeg)) zd_106_241 rfl (by decide) (zJ_in c18 rfl) rfl (show ((zx_up r17.2 82 37 r17.1) : zS) 104 v1.toNatClampNeg = (r17.2 104 v1.toNatClampNeg) from ((zx_up_ne (by decide)).trans rfl))]
            obtain ⟨r19, hr19, H⟩ := Option.bind_eq_some_iff.mp H
            rw [zp_callVv (st := [.int (r17.2 104 v1.toNatClampNeg), .int 4, .ref 82]) (as := [.ref 82, .int 4, .int (r17.2 104 v1.toNatClampNeg)]) (rest := []) (e := 3) zd_106_242 rfl (by decide +kernel) (by decide) rfl rfl (Nat.le_of_ble_eq_true rfl) (zx_rcb_ok rfl (show 82 < 119 by decide)) (Nat.le_of_ble_eq_true rfl) rfl (by decide) (zt_M_openBlock hr19)]
            rw [zs_aload_n (ls := [some (.ref 82), some (.int v1), (zJ_cl o2), some (.int (r15 82 37))]) zd_106_245 rfl]
            rw [zs_getR (n := 119) (K := zx_pk (zK L) 119) (ρ := zR) (c := 12) (k := 44) (q := 82) (p := 105) zd_106_246 rfl rfl rfl (by decide) rfl]
            rw [zs_iload_n (ls := [some (.ref 82), some (.int v1), (zJ_cl o2), some (.int (r15 82 37))]) zd_106_249 rfl]
            rw [zs_iload_n (ls := [some (.ref 82), some (.int v1), (zJ_cl o2), some (.int (r15 82 37))]) zd_106_250 rfl]
            by_cases c20 : 0 ≤ v1 ∧ v1 < 10
            · rw [if_pos c20] at H
              rw [zp_iastore (n := 119) (K := zx_pk (zK L) 119) (q := 105) (m := 10) (i := v1) (k := v1.toNatClampNeg) (x := (r15 82 37)) (z := (r15 82 37)) zd_106_251 rfl ⟨by decide, by decide⟩ (zJ_in c20 rfl) rfl rfl]
              rw [zs_goto (t := 270) zd_106_252 rfl]
              have H := Option.some.inj H
              subst H
              exact zs_return zd_106_270 (by decide +kernel)
            · rw [if_neg c20] at H
              cases H
          · rw [if_neg c18] at H
            cases H
        · rw [if_neg c16] at H
          cases H
  · rw [if_neg c8] at H
    cases H
set_option maxRecDepth 20000 in
theorem zt_M_closeBlock {a b L N : Nat} {σ : zS} {τ : zT} {r : zS} (H : zf_M_closeBlock N σ = some r) : zx_go 4 106 0 [some (.ref 82), none, none, none] [] ((119, a, b), zx_pk (zK L) 119, σ, τ, zR) = some (none, ((119, a, b), zx_pk (zK L) 119, r, τ, zR)) := by
  unfold zf_M_closeBlock at H
  rw [zs_aload_n (ls := [some (.ref 82), none, none, none]) zd_106_0 rfl]
  rw [zp_getI (n := 119) (K := zx_pk (zK L) 119) (σ := σ) (c := 12) (k := 46) (q := 82) (v := (σ 82 46)) zd_106_1 rfl rfl rfl (by decide) rfl]
  rw [zs_iconst (z := 1) zd_106_4 (by decide)]
  rw [zp_isub (x := (σ 82 46)) (y := 1) (z := ((σ 82 46) - 1)) zd_106_5 rfl]
  rw [zs_istore_n (x := ((σ 82 46) - 1)) (ls' := [some (.ref 82), some (.int ((σ 82 46) - 1)), none, none]) zd_106_6 (Nat.le_of_ble_eq_true rfl) rfl]
  rw [zs_bipush (z := 24) zd_106_7 (by decide)]
  rw [zs_aload_n (ls := [some (.ref 82), some (.int ((σ 82 46) - 1)), none, none]) zd_106_9 rfl]
  rw [zp_getI (n := 119) (K := zx_pk (zK L) 119) (σ := σ) (c := 12) (k := 39) (q := 82) (v := (σ 82 39)) zd_106_10 rfl rfl rfl (by decide) rfl]
  rw [zp_imul (x := 24) (y := (σ 82 39)) (z := (24 * (σ 82 39))) zd_106_13 rfl]
  rw [zs_istore_n (x := (24 * (σ 82 39))) (ls' := [some (.ref 82), some (.int ((σ 82 46) - 1)), some (.int (24 * (σ 82 39))), none]) zd_106_14 (Nat.le_of_ble_eq_true rfl) rfl]
  rw [zs_aload_n (ls := [some (.ref 82), some (.int ((σ 82 46) - 1)), some (.int (24 * (σ 82 39))), none]) zd_106_15 rfl]
  rw [zs_getR (n := 119) (K := zx_pk (zK L) 119) (ρ := zR) (c := 12) (k := 42) (q := 82) (p := 103) zd_106_16 rfl rfl rfl (by decide) rfl]
  rw [zs_iload_n (ls := [some (.ref 82), some (.int ((σ 82 46) - 1)), some (.int (24 * (σ 82 39))), none]) zd_106_19 rfl]
  by_cases c1 : 0 ≤ ((σ 82 46) - 1) ∧ ((σ 82 46) - 1) < 10
  · rw [if_pos c1] at H
    rw [zp_iaload (n := 119) (K := zx_pk (zK L) 119) (σ := σ) (q := 103) (m := 10) (i := ((σ 82 46) - 1)) (k := ((σ 82 46) - 1).toNatClampNeg) (v := (σ 103 ((σ 82 46) - 1).toNatClampNeg)) zd_106_20 rfl (by decide) (zJ_in c1 rfl) rfl rfl]
    by_cases c2 : (σ 103 ((σ 82 46) - 1).toNatClampNeg) = 1
    · rw [if_pos c2] at H
      rw [zs_table (x := (σ 103 ((σ 82 46) - 1).toNatClampNeg)) (off := 35) (t := 56) zd_106_21 (by rw [c2]; decide) rfl]
      rw [zs_aload_n (ls := [some (.ref 82), some (.int ((σ 82 46) - 1)), some (.int (24 * (σ 82 39))), none]) zd_106_56 rfl]
      rw [zs_iconst (z := 4) zd_106_57 (by decide)]
      rw [zs_aload_n (ls := [some (.ref 82), some (.int ((σ 82 46) - 1)), some (.int (24 * (σ 82 39))), none]) zd_106_58 rfl]
      rw [zs_getR (n := 119) (K := zx_pk (zK L) 119) (ρ := zR) (c := 12) (k := 28) (q := 82) (p := 93) zd_106_59 rfl rfl rfl (by decide) rfl]
      rw [zs_iload_n (ls := [some (.ref 82), some (.int ((σ 82 46) - 1)), some (.int (24 * (σ 82 39))), none]) zd_106_62 rfl]
      rw [zs_aload_n (ls := [some (.ref 82), some (.int ((σ 82 46) - 1)), some (.int (24 * (σ 82 39))), none]) zd_106_63 rfl]
      rw [zs_getR (n := 119) (K := zx_pk (zK L) 119) (ρ := zR) (c := 12) (k := 43) (q := 82) (p := 104) zd_106_64 rfl rfl rfl (by decide) rfl]
      rw [zs_iload_n (ls := [some (.ref 82), some (.int ((σ 82 46) - 1)), some (.int (24 * (σ 82 39))), none]) zd_106_67 rfl]
      by_cases c27 : 0 ≤ ((σ 82 46) - 1) ∧ ((σ 82 46) - 1) < 10
      · rw [if_pos c27] at H
        rw [zp_iaload (n := 119) (K := zx_pk (zK L) 119) (σ := σ) (q := 104) (m := 10) (i := ((σ 82 46) - 1)) (k := ((σ 82 46) - 1).toNatClampNeg) (v := (σ 104 ((σ 82 46) - 1).toNatClampNeg)) zd_106_68 rfl (by decide) (zJ_in c27 rfl) rfl rfl]
        rw [zp_iadd (x := (24 * (σ 82 39))) (y := (σ 104 ((σ 82 46) - 1).toNatClampNeg)) (z := ((24 * (σ 82 39)) + (σ 104 ((σ 82 46) - 1).toNatClampNeg))) zd_106_69 rfl]
        by_cases c28 : 0 ≤ ((24 * (σ 82 39)) + (σ 104 ((σ 82 46) - 1).toNatClampNeg)) ∧ ((24 * (σ 82 39)) + (σ 104 ((σ 82 46) - 1).toNatClampNeg)) < 96
        · rw [if_pos c28] at H
          rw [zp_iaload (n := 119) (K := zx_pk (zK L) 119) (σ := σ) (q := 93) (m := 96) (i := ((24 * (σ 82 39)) + (σ 104 ((σ 82 46) - 1).toNatClampNeg))) (k := ((24 * (σ 82 39)) + (σ 104 ((σ 82 46) - 1).toNatClampNeg)).toNatClampNeg) (v := (σ 93 ((24 * (σ 82 39)) + (σ 104 ((σ 82 46) - 1).toNatClampNeg)).toNatClampNeg)) zd_106_70 rfl (by decide) (zJ_in c28 rfl) rfl rfl]
          obtain ⟨r29, hr29, H⟩ := Option.bind_eq_some_iff.mp H
          rw [zp_callVi (x := r29.1) (st := [.int (σ 93 ((24 * (σ 82 39)) + (σ 104 ((σ 82 46) - 1).toNatClampNeg)).toNatClampNeg), .int 4, .ref 82]) (as := [.ref 82, .int 4, .int (σ 93 ((24 * (σ 82 39)) + (σ 104 ((σ 82 46) - 1).toNatClampNeg)).toNatClampNeg)]) (rest := []) (e := 1) zd_106_71 rfl (by decide +kernel) (by decide) rfl rfl (Nat.le_of_ble_eq_true rfl) (zx_rcb_ok rfl (show 82 < 119 by decide)) (Nat.le_of_ble_eq_true rfl) rfl (by decide) (zt_M_addStep hr29)]
          rw [zs_istore_n (x := r29.1) (ls' := [some (.ref 82), some (.int ((σ 82 46) - 1)), some (.int (24 * (σ 82 39))), some (.int r29.1)]) zd_106_74 (Nat.le_of_ble_eq_true rfl) rfl]
          rw [zs_aload_n (ls := [some (.ref 82), some (.int ((σ 82 46) - 1)), some (.int (24 * (σ 82 39))), some (.int r29.1)]) zd_106_75 rfl]
          rw [zp_getZ (n := 119) (K := zx_pk (zK L) 119) (σ := r29.2) (c := 12) (k := 9) (q := 82) (v := (r29.2 82 9)) zd_106_76 rfl rfl rfl (by decide) rfl]
          by_cases c30 : (r29.2 82 9) = 0
          · rw [if_pos c30] at H
            rw [zp_if_eq_t (x := (r29.2 82 9)) (t := 83) zd_106_79 rfl c30]
            rw [zs_aload_n (ls := [some (.ref 82), some (.int ((σ 82 46) - 1)), some (.int (24 * (σ 82 39))), some (.int r29.1)]) zd_106_83 rfl]
            rw [zs_aload_n (ls := [some (.ref 82), some (.int ((σ 82 46) - 1)), some (.int (24 * (σ 82 39))), some (.int r29.1)]) zd_106_84 rfl]
            rw [zs_getR (n := 119) (K := zx_pk (zK L) 119) (ρ := zR) (c := 12) (k := 45) (q := 82) (p := 106) zd_106_85 rfl rfl rfl (by decide) rfl]
            rw [zs_iload_n (ls := [some (.ref 82), some (.int ((σ 82 46) - 1)), some (.int (24 * (σ 82 39))), some (.int r29.1)]) zd_106_88 rfl]
            by_cases c31 : 0 ≤ ((σ 82 46) - 1) ∧ ((σ 82 46) - 1) < 10
            · rw [if_pos c31] at H
              rw [zp_iaload (n := 119) (K := zx_pk (zK L) 119) (σ := r29.2) (q := 106) (m := 10) (i := ((σ 82 46) - 1)) (k := ((σ 82 46) - 1).toNatClampNeg) (v := (r29.2 106 ((σ 82 46) - 1).toNatClampNeg)) zd_106_89 rfl (by decide) (zJ_in c31 rfl) rfl rfl]
              rw [zs_iconst (z := 1) zd_106_90 (by decide)]
              rw [zs_aload_n (ls := [some (.ref 82), some (.int ((σ 82 46) - 1)), some (.int (24 * (σ 82 39))), some (.int r29.1)]) zd_106_91 rfl]
              rw [zs_getR (n := 119) (K := zx_pk (zK L) 119) (ρ := zR) (c := 12) (k := 28) (q := 82) (p := 93) zd_106_92 rfl rfl rfl (by decide) rfl]
              rw [zs_iload_n (ls := [some (.ref 82), some (.int ((σ 82 46) - 1)), some (.int (24 * (σ 82 39))), some (.int r29.1)]) zd_106_95 rfl]
              rw [zs_aload_n (ls := [some (.ref 82), some (.int ((σ 82 46) - 1)), some (.int (24 * (σ 82 39))), some (.int r29.1)]) zd_106_96 rfl]
              rw [zs_getR (n := 119) (K := zx_pk (zK L) 119) (ρ := zR) (c := 12) (k := 43) (q := 82) (p := 104) zd_106_97 rfl rfl rfl (by decide) rfl]
              rw [zs_iload_n (ls := [some (.ref 82), some (.int ((σ 82 46) - 1)), some (.int (24 * (σ 82 39))), some (.int r29.1)]) zd_106_100 rfl]
              by_cases c32 : 0 ≤ ((σ 82 46) - 1) ∧ ((σ 82 46) - 1) < 10
              · rw [if_pos c32] at H
                rw [zp_iaload (n := 119) (K := zx_pk (zK L) 119) (σ := r29.2) (q := 104) (m := 10) (i := ((σ 82 46) - 1)) (k := ((σ 82 46) - 1).toNatClampNeg) (v := (r29.2 104 ((σ 82 46) - 1).toNatClampNeg)) zd_106_101 rfl (by decide) (zJ_in c32 rfl) rfl rfl]
                rw [zp_iadd (x := (24 * (σ 82 39))) (y := (r29.2 104 ((σ 82 46) - 1).toNatClampNeg)) (z := ((24 * (σ 82 39)) + (r29.2 104 ((σ 82 46) - 1).toNatClampNeg))) zd_106_102 rfl]
                by_cases c33 : 0 ≤ ((24 * (σ 82 39)) + (r29.2 104 ((σ 82 46) - 1).toNatClampNeg)) ∧ ((24 * (σ 82 39)) + (r29.2 104 ((σ 82 46) - 1).toNatClampNeg)) < 96
                · rw [if_pos c33] at H
                  rw [zp_iaload (n := 119) (K := zx_pk (zK L) 119) (σ := r29.2) (q := 93) (m := 96) (i := ((24 * (σ 82 39)) + (r29.2 104 ((σ 82 46) - 1).toNatClampNeg))) (k := ((24 * (σ 82 39)) + (r29.2 104 ((σ 82 46) - 1).toNatClampNeg)).toNatClampNeg) (v := (r29.2 93 ((24 * (σ 82 39)) + (r29.2 104 ((σ 82 46) - 1).toNatClampNeg)).toNatClampNeg)) zd_106_103 rfl (by decide) (zJ_in c33 rfl) rfl rfl]
                  rw [zp_ishl (x := 1) (y := (r29.2 93 ((24 * (σ 82 39)) + (r29.2 104 ((σ 82 46) - 1).toNatClampNeg)).toNatClampNeg)) (z := (zJ_shl 1 (r29.2 93 ((24 * (σ 82 39)) + (r29.2 104 ((σ 82 46) - 1).toNatClampNeg)).toNatClampNeg))) zd_106_104 rfl]
                  rw [zs_iconst (z := (-1)) zd_106_105 (by decide)]
                  rw [zp_ixor (x := (zJ_shl 1 (r29.2 93 ((24 * (σ 82 39)) + (r29.2 104 ((σ 82 46) - 1).toNatClampNeg)).toNatClampNeg))) (y := (-1)) (z := ((zJ_shl 1 (r29.2 93 ((24 * (σ 82 39)) + (r29.2 104 ((σ 82 46) - 1).toNatClampNeg)).toNatClampNeg)) ^^^ (-1))) zd_106_106 rfl]
                  rw [zp_iand (x := (r29.2 106 ((σ 82 46) - 1).toNatClampNeg)) (y := ((zJ_shl 1 (r29.2 93 ((24 * (σ 82 39)) + (r29.2 104 ((σ 82 46) - 1).toNatClampNeg)).toNatClampNeg)) ^^^ (-1))) (z := ((r29.2 106 ((σ 82 46) - 1).toNatClampNeg) &&& ((zJ_shl 1 (r29.2 93 ((24 * (σ 82 39)) + (r29.2 104 ((σ 82 46) - 1).toNatClampNeg)).toNatClampNeg)) ^^^ (-1)))) zd_106_107 rfl]
                  rw [zs_aload_n (ls := [some (.ref 82), some (.int ((σ 82 46) - 1)), some (.int (24 * (σ 82 39))), some (.int r29.1)]) zd_106_108 rfl]
                  rw [zs_getR (n := 119) (K := zx_pk (zK L) 119) (ρ := zR) (c := 12) (k := 31) (q := 82) (p := 96) zd_106_109 rfl rfl rfl (by decide) rfl]
                  rw [zs_iload_n (ls := [some (.ref 82), some (.int ((σ 82 46) - 1)), some (.int (24 * (σ 82 39))), some (.int r29.1)]) zd_106_112 rfl]
                  rw [zs_aload_n (ls := [some (.ref 82), some (.int ((σ 82 46) - 1)), some (.int (24 * (σ 82 39))), some (.int r29.1)]) zd_106_113 rfl]
                  rw [zs_getR (n := 119) (K := zx_pk (zK L) 119) (ρ := zR) (c := 12) (k := 43) (q := 82) (p := 104) zd_106_114 rfl rfl rfl (by decide) rfl]
                  rw [zs_iload_n (ls := [some (.ref 82), some (.int ((σ 82 46) - 1)), some (.int (24 * (σ 82 39))), some (.int r29.1)]) zd_106_117 rfl]
                  by_cases c34 : 0 ≤ ((σ 82 46) - 1) ∧ ((σ 82 46) - 1) < 10
                  · rw [if_pos c34] at H
                    rw [zp_iaload (n := 119) (K := zx_pk (zK L) 119) (σ := r29.2) (q := 104) (m := 10) (i := ((σ 82 46) - 1)) (k := ((σ 82 46) - 1).toNatClampNeg) (v := (r29.2 104 ((σ 82 46) - 1).toNatClampNeg)) zd_106_118 rfl (by decide) (zJ_in c34 rfl) rfl rfl]
                    rw [zp_iadd (x := (24 * (σ 82 39))) (y := (r29.2 104 ((σ 82 46) - 1).toNatClampNeg)) (z := ((24 * (σ 82 39)) + (r29.2 104 ((σ 82 46) - 1).toNatClampNeg))) zd_106_119 rfl]
                    by_cases c35 : 0 ≤ ((24 * (σ 82 39)) + (r29.2 104 ((σ 82 46) - 1).toNatClampNeg)) ∧ ((24 * (σ 82 39)) + (r29.2 104 ((σ 82 46) - 1).toNatClampNeg)) < 96
                    · rw [if_pos c35] at H
                      rw [zp_iaload (n := 119) (K := zx_pk (zK L) 119) (σ := r29.2) (q := 96) (m := 96) (i := ((24 * (σ 82 39)) + (r29.2 104 ((σ 82 46) - 1).toNatClampNeg))) (k := ((24 * (σ 82 39)) + (r29.2 104 ((σ 82 46) - 1).toNatClampNeg)).toNatClampNeg) (v := (r29.2 96 ((24 * (σ 82 39)) + (r29.2 104 ((σ 82 46) - 1).toNatClampNeg)).toNatClampNeg)) zd_106_120 rfl (by decide) (zJ_in c35 rfl) rfl rfl]
                      rw [zp_ior (x := ((r29.2 106 ((σ 82 46) - 1).toNatClampNeg) &&& ((zJ_shl 1 (r29.2 93 ((24 * (σ 82 39)) + (r29.2 104 ((σ 82 46) - 1).toNatClampNeg)).toNatClampNeg)) ^^^ (-1)))) (y := (r29.2 96 ((24 * (σ 82 39)) + (r29.2 104 ((σ 82 46) - 1).toNatClampNeg)).toNatClampNeg)) (z := (((r29.2 106 ((σ 82 46) - 1).toNatClampNeg) &&& ((zJ_shl 1 (r29.2 93 ((24 * (σ 82 39)) + (r29.2 104 ((σ 82 46) - 1).toNatClampNeg)).toNatClampNeg)) ^^^ (-1))) ||| (r29.2 96 ((24 * (σ 82 39)) + (r29.2 104 ((σ 82 46) - 1).toNatClampNeg)).toNatClampNeg))) zd_106_121 rfl]
                      rw [zs_putI (n := 119) (K := zx_pk (zK L) 119) (c := 12) (k := 40) (q := 82) (x := (((r29.2 106 ((σ 82 46) - 1).toNatClampNeg) &&& ((zJ_shl 1 (r29.2 93 ((24 * (σ 82 39)) + (r29.2 104 ((σ 82 46) - 1).toNatClampNeg)).toNatClampNeg)) ^^^ (-1))) ||| (r29.2 96 ((24 * (σ 82 39)) + (r29.2 104 ((σ 82 46) - 1).toNatClampNeg)).toNatClampNeg))) zd_106_122 rfl rfl (by decide +kernel) rfl (by decide)]
                      rw [zs_goto (t := 177) zd_106_125 rfl]
                      exact zt_M_closeBlock_177  H
                    · rw [if_neg c35] at H
                      cases H
                  · rw [if_neg c34] at H
                    cases H
                · rw [if_neg c33] at H
                  cases H
              · rw [if_neg c32] at H
                cases H
            · rw [if_neg c31] at H
              cases H
          · rw [if_neg c30] at H
            rw [zp_if_eq_f (x := (r29.2 82 9)) (t := 83) zd_106_79 rfl c30]
            have H := Option.some.inj H
            subst H
            exact zs_return zd_106_82 (by decide +kernel)
        · rw [if_neg c28] at H
          cases H
      · rw [if_neg c27] at H
        cases H
    · rw [if_neg c2] at H
      by_cases c3 : (σ 103 ((σ 82 46) - 1).toNatClampNeg) = 2
      · rw [if_pos c3] at H
        rw [zs_table (x := (σ 103 ((σ 82 46) - 1).toNatClampNeg)) (off := 107) (t := 128) zd_106_21 (by rw [c3]; decide) rfl]
        rw [zs_aload_n (ls := [some (.ref 82), some (.int ((σ 82 46) - 1)), some (.int (24 * (σ 82 39))), none]) zd_106_128 rfl]
        rw [zs_iconst (z := (-1)) zd_106_129 (by decide)]
        rw [zs_putI (n := 119) (K := zx_pk (zK L) 119) (c := 12) (k := 41) (q := 82) (x := (-1)) zd_106_130 rfl rfl (by decide +kernel) rfl (by decide)]
        rw [zs_goto (t := 177) zd_106_133 rfl]
        exact zt_M_closeBlock_177  H
      · rw [if_neg c3] at H
        by_cases c4 : (σ 103 ((σ 82 46) - 1).toNatClampNeg) = 3
        · rw [if_pos c4] at H
          rw [zs_table (x := (σ 103 ((σ 82 46) - 1).toNatClampNeg)) (off := 156) (t := 177) zd_106_21 (by rw [c4]; decide) rfl]
          exact zt_M_closeBlock_177  H
        · rw [if_neg c4] at H
          by_cases c5 : (σ 103 ((σ 82 46) - 1).toNatClampNeg) = 4
          · rw [if_pos c5] at H
            rw [zs_table (x := (σ 103 ((σ 82 46) - 1).toNatClampNeg)) (off := 143) (t := 164) zd_106_21 (by rw [c5]; decide) rfl]
            rw [zs_aload_n (ls := [some (.ref 82), some (.int ((σ 82 46) - 1)), some (.int (24 * (σ 82 39))), none]) zd_106_164 rfl]
            rw [zs_aload_n (ls := [some (.ref 82), some (.int ((σ 82 46) - 1)), some (.int (24 * (σ 82 39))), none]) zd_106_165 rfl]
            rw [zs_getR (n := 119) (K := zx_pk (zK L) 119) (ρ := zR) (c := 12) (k := 44) (q := 82) (p := 105) zd_106_166 rfl rfl rfl (by decide) rfl]
            rw [zs_iload_n (ls := [some (.ref 82), some (.int ((σ 82 46) - 1)), some (.int (24 * (σ 82 39))), none]) zd_106_169 rfl]
            by_cases c25 : 0 ≤ ((σ 82 46) - 1) ∧ ((σ 82 46) - 1) < 10
            · rw [if_pos c25] at H
              rw [zp_iaload (n := 119) (K := zx_pk (zK L) 119) (σ := σ) (q := 105) (m := 10) (i := ((σ 82 46) - 1)) (k := ((σ 82 46) - 1).toNatClampNeg) (v := (σ 105 ((σ 82 46) - 1).toNatClampNeg)) zd_106_170 rfl (by decide) (zJ_in c25 rfl) rfl rfl]
              obtain ⟨r26, hr26, H⟩ := Option.bind_eq_some_iff.mp H
              rw [zp_callVv (st := [.int (σ 105 ((σ 82 46) - 1).toNatClampNeg), .ref 82]) (as := [.ref 82, .int (σ 105 ((σ 82 46) - 1).toNatClampNeg)]) (rest := []) (e := 0) zd_106_171 rfl (by decide +kernel) (by decide) rfl rfl (Nat.le_of_ble_eq_true rfl) (zx_rcb_ok rfl (show 82 < 119 by decide)) (Nat.le_of_ble_eq_true rfl) rfl (by decide) (zt_M_joinOpen hr26)]
              rw [zs_goto (t := 177) zd_106_174 rfl]
              exact zt_M_closeBlock_177  H
            · rw [if_neg c25] at H
              cases H
          · rw [if_neg c5] at H
            by_cases c6 : (σ 103 ((σ 82 46) - 1).toNatClampNeg) = 5
            · rw [if_pos c6] at H
              rw [zs_table (x := (σ 103 ((σ 82 46) - 1).toNatClampNeg)) (off := 115) (t := 136) zd_106_21 (by rw [c6]; decide) rfl]
              rw [zs_aload_n (ls := [some (.ref 82), some (.int ((σ 82 46) - 1)), some (.int (24 * (σ 82 39))), none]) zd_106_136 rfl]
              rw [zs_aload_n (ls := [some (.ref 82), some (.int ((σ 82 46) - 1)), some (.int (24 * (σ 82 39))), none]) zd_106_137 rfl]
              rw [zs_getR (n := 119) (K := zx_pk (zK L) 119) (ρ := zR) (c := 12) (k := 43) (q := 82) (p := 104) zd_106_138 rfl rfl rfl (by decide) rfl]
              rw [zs_iload_n (ls := [some (.ref 82), some (.int ((σ 82 46) - 1)), some (.int (24 * (σ 82 39))), none]) zd_106_141 rfl]
              by_cases c21 : 0 ≤ ((σ 82 46) - 1) ∧ ((σ 82 46) - 1) < 10
              · rw [if_pos c21] at H
                rw [zp_iaload (n := 119) (K := zx_pk (zK L) 119) (σ := σ) (q := 104) (m := 10) (i := ((σ 82 46) - 1)) (k := ((σ 82 46) - 1).toNatClampNeg) (v := (σ 104 ((σ 82 46) - 1).toNatClampNeg)) zd_106_142 rfl (by decide) (zJ_in c21 rfl) rfl rfl]
                obtain ⟨r22, hr22, H⟩ := Option.bind_eq_some_iff.mp H
                rw [zp_callVv (st := [.int (σ 104 ((σ 82 46) - 1).toNatClampNeg), .ref 82]) (as := [.ref 82, .int (σ 104 ((σ 82 46) - 1).toNatClampNeg)]) (rest := []) (e := 0) zd_106_143 rfl (by decide +kernel) (by decide) rfl rfl (Nat.le_of_ble_eq_true rfl) (zx_rcb_ok rfl (show 82 < 119 by decide)) (Nat.le_of_ble_eq_true rfl) rfl (by decide) (zt_M_lead hr22)]
                rw [zs_aload_n (ls := [some (.ref 82), some (.int ((σ 82 46) - 1)), some (.int (24 * (σ 82 39))), none]) zd_106_146 rfl]
                rw [zs_aload_n (ls := [some (.ref 82), some (.int ((σ 82 46) - 1)), some (.int (24 * (σ 82 39))), none]) zd_106_147 rfl]
                rw [zs_aload_n (ls := [some (.ref 82), some (.int ((σ 82 46) - 1)), some (.int (24 * (σ 82 39))), none]) zd_106_148 rfl]
                rw [zs_getR (n := 119) (K := zx_pk (zK L) 119) (ρ := zR) (c := 12) (k := 43) (q := 82) (p := 104) zd_106_149 rfl rfl rfl (by decide) rfl]
                rw [zs_iload_n (ls := [some (.ref 82), some (.int ((σ 82 46) - 1)), some (.int (24 * (σ 82 39))), none]) zd_106_152 rfl]
                by_cases c23 : 0 ≤ ((σ 82 46) - 1) ∧ ((σ 82 46) - 1) < 10
                · rw [if_pos c23] at H
                  rw [zp_iaload (n := 119) (K := zx_pk (zK L) 119) (σ := r22) (q := 104) (m := 10) (i := ((σ 82 46) - 1)) (k := ((σ 82 46) - 1).toNatClampNeg) (v := (r22 104 ((σ 82 46) - 1).toNatClampNeg)) zd_106_153 rfl (by decide) (zJ_in c23 rfl) rfl rfl]
                  rw [zs_iconst (z := 1) zd_106_154 (by decide)]
                  obtain ⟨r24, hr24, H⟩ := Option.bind_eq_some_iff.mp H
                  rw [zp_callVi (x := r24.1) (st := [.int 1, .int (r22 104 ((σ 82 46) - 1).toNatClampNeg), .ref 82, .ref 82]) (as := [.ref 82, .int (r22 104 ((σ 82 46) - 1).toNatClampNeg), .int 1]) (rest := [.ref 82]) (e := 0) zd_106_155 rfl (by decide +kernel) (by decide) rfl rfl (Nat.le_of_ble_eq_true rfl) (zx_rcb_ok rfl (show 82 < 119 by decide)) (Nat.le_of_ble_eq_true rfl) rfl (by decide) (zt_M_wayOf hr24)]
                  rw [zs_putI (n := 119) (K := zx_pk (zK L) 119) (c := 12) (k := 37) (q := 82) (x := r24.1) zd_106_158 rfl rfl (by decide +kernel) rfl (by decide)]
                  rw [zs_goto (t := 177) zd_106_161 rfl]
                  exact zt_M_closeBlock_177  H
                · rw [if_neg c23] at H
                  cases H
              · rw [if_neg c21] at H
                cases H
            · rw [if_neg c6] at H
              rw [zs_table (x := (σ 103 ((σ 82 46) - 1).toNatClampNeg)) (off := 156) (t := 177) zd_106_21 (if_pos (by have e : ∀ z : Int32, ¬ (σ 103 ((σ 82 46) - 1).toNatClampNeg) = z → ¬ ((σ 103 ((σ 82 46) - 1).toNatClampNeg) : Int32).toInt = z.toInt := fun z h q => h (Int32.toInt_inj.mp q); have q0 := e 1 c2; have q1 := e 2 c3; have q2 := e 3 c4; have q3 := e 4 c5; have q4 := e 5 c6; simp only [show (1 : Int32).toInt = 1 from rfl, show (2 : Int32).toInt = 2 from rfl, show (3 : Int32).toInt = 3 from rfl, show (4 : Int32).toInt = 4 from rfl, show (5 : Int32).toInt = 5 from rfl] at q0 q1 q2 q3 q4; omega)) rfl]
              exact zt_M_closeBlock_177  H
  · rw [if_neg c1] at H
    cases H
set_option maxRecDepth 20000 in
theorem zt_M_readThread_235 {a b L N : Nat} {k178 : zS → Int32 → Option (zS)} (hk178 : ∀ {σ : zS} {τ : zT} {v1 : Int32} {o2 : Option Value} {r : zS}, k178 σ v1 = some r → zx_go 6 104 178 [some (.ref 82), some (.int v1), o2] [] ((119, a, b), zx_pk (zK L) 119, σ, τ, zR) = some (none, ((119, a, b), zx_pk (zK L) 119, r, τ, zR))) {σ : zS} {τ : zT} {v1 : Int32} {s0 : Int32} {s1 : Int32} {o2 : Option Value} {r : zS} (H : zb_M_readThread_235 k178 N σ v1 s0 s1 = some r) : zx_go 6 104 235 [some (.ref 82), some (.int v1), o2] [.int s0, .int s1, .ref 94] ((119, a, b), zx_pk (zK L) 119, σ, τ, zR) = some (none, ((119, a, b), zx_pk (zK L) 119, r, τ, zR)) := by
  unfold zb_M_readThread_235 at H
  by_cases c19 : 0 ≤ s1 ∧ s1 < 96
  · rw [if_pos c19] at H
    rw [zp_iastore (n := 119) (K := zx_pk (zK L) 119) (q := 94) (m := 96) (i := s1) (k := s1.toNatClampNeg) (x := s0) (z := s0) zd_104_235 rfl ⟨by decide, by decide⟩ (zJ_in c19 rfl) rfl rfl]
    rw [zs_iinc (ls := [some (.ref 82), some (.int v1), o2]) (x := v1) (z := (v1 + 1)) (ls' := [some (.ref 82), some (.int (v1 + 1)), o2]) zd_104_236 rfl rfl rfl]
    rw [zs_goto (t := 178) zd_104_239 rfl]
    exact hk178 H
  · rw [if_neg c19] at H
    cases H
set_option maxRecDepth 20000 in
theorem zt_M_readThread_178 {a b L N : Nat} : ∀ {n : Nat} {σ : zS} {τ : zT} {v1 : Int32} {o2 : Option Value} {r : zS}, zb_M_readThread_178 N n σ v1 = some r → zx_go 6 104 178 [some (.ref 82), some (.int v1), o2] [] ((119, a, b), zx_pk (zK L) 119, σ, τ, zR) = some (none, ((119, a, b), zx_pk (zK L) 119, r, τ, zR)) := by
  intro n
  induction n with
  | zero =>
    intro _ _ _ _ _ H
    cases H
  | succ n ih =>
    intro σ τ v1 o2 r H
    rw [zb_M_readThread_178] at H
    rw [zs_iload_n (ls := [some (.ref 82), some (.int v1), o2]) zd_104_178 rfl]
    rw [zs_aload_n (ls := [some (.ref 82), some (.int v1), o2]) zd_104_179 rfl]
    rw [zs_getR (n := 119) (K := zx_pk (zK L) 119) (ρ := zR) (c := 12) (k := 24) (q := 82) (p := 90) zd_104_180 rfl rfl rfl (by decide) rfl]
    rw [zs_aload_n (ls := [some (.ref 82), some (.int v1), o2]) zd_104_183 rfl]
    rw [zp_getI (n := 119) (K := zx_pk (zK L) 119) (σ := σ) (c := 12) (k := 39) (q := 82) (v := (σ 82 39)) zd_104_184 rfl rfl rfl (by decide) rfl]
    by_cases c14 : 0 ≤ (σ 82 39) ∧ (σ 82 39) < 4
    · rw [if_pos c14] at H
      rw [zp_iaload (n := 119) (K := zx_pk (zK L) 119) (σ := σ) (q := 90) (m := 4) (i := (σ 82 39)) (k := (σ 82 39).toNatClampNeg) (v := (σ 90 (σ 82 39).toNatClampNeg)) zd_104_187 rfl (by decide) (zJ_in c14 rfl) rfl rfl]
      by_cases c15 : (σ 90 (σ 82 39).toNatClampNeg) ≤ v1
      · rw [if_pos c15] at H
        rw [zp_icmp_ge_t (x := v1) (y := (σ 90 (σ 82 39).toNatClampNeg)) (t := 242) zd_104_188 rfl c15]
        have H := Option.some.inj H
        subst H
        exact zs_return zd_104_242 (by decide +kernel)
      · rw [if_neg c15] at H
        rw [zp_icmp_ge_f (x := v1) (y := (σ 90 (σ 82 39).toNatClampNeg)) (t := 242) zd_104_188 rfl c15]
        rw [zs_bipush (z := 24) zd_104_191 (by decide)]
        rw [zs_aload_n (ls := [some (.ref 82), some (.int v1), o2]) zd_104_193 rfl]
        rw [zp_getI (n := 119) (K := zx_pk (zK L) 119) (σ := σ) (c := 12) (k := 39) (q := 82) (v := (σ 82 39)) zd_104_194 rfl rfl rfl (by decide) rfl]
        rw [zp_imul (x := 24) (y := (σ 82 39)) (z := (24 * (σ 82 39))) zd_104_197 rfl]
        rw [zs_iload_n (ls := [some (.ref 82), some (.int v1), o2]) zd_104_198 rfl]
        rw [zp_iadd (x := (24 * (σ 82 39))) (y := v1) (z := ((24 * (σ 82 39)) + v1)) zd_104_199 rfl]
        rw [zs_istore_n (x := ((24 * (σ 82 39)) + v1)) (ls' := [some (.ref 82), some (.int v1), some (.int ((24 * (σ 82 39)) + v1))]) zd_104_200 (Nat.le_of_ble_eq_true rfl) rfl]
        rw [zs_aload_n (ls := [some (.ref 82), some (.int v1), some (.int ((24 * (σ 82 39)) + v1))]) zd_104_201 rfl]
        rw [zs_getR (n := 119) (K := zx_pk (zK L) 119) (ρ := zR) (c := 12) (k := 29) (q := 82) (p := 94) zd_104_202 rfl rfl rfl (by decide) rfl]
        rw [zs_iload_n (ls := [some (.ref 82), some (.int v1), some (.int ((24 * (σ 82 39)) + v1))]) zd_104_205 rfl]
        rw [zs_aload_n (ls := [some (.ref 82), some (.int v1), some (.int ((24 * (σ 82 39)) + v1))]) zd_104_206 rfl]
        rw [zs_getR (n := 119) (K := zx_pk (zK L) 119) (ρ := zR) (c := 12) (k := 27) (q := 82) (p := 92) zd_104_207 rfl rfl rfl (by decide) rfl]
        rw [zs_iload_n (ls := [some (.ref 82), some (.int v1), some (.int ((24 * (σ 82 39)) + v1))]) zd_104_210 rfl]
        by_cases c16 : 0 ≤ ((24 * (σ 82 39)) + v1) ∧ ((24 * (σ 82 39)) + v1) < 96
        · rw [if_pos c16] at H
          rw [zp_iaload (n := 119) (K := zx_pk (zK L) 119) (σ := σ) (q := 92) (m := 96) (i := ((24 * (σ 82 39)) + v1)) (k := ((24 * (σ 82 39)) + v1).toNatClampNeg) (v := (σ 92 ((24 * (σ 82 39)) + v1).toNatClampNeg)) zd_104_211 rfl (by decide) (zJ_in c16 rfl) rfl rfl]
          rw [zs_bipush (z := 13) zd_104_212 (by decide)]
          by_cases c17 : ¬ (σ 92 ((24 * (σ 82 39)) + v1).toNatClampNeg) = 13
          · rw [if_pos c17] at H
            rw [zp_icmp_ne_t (x := (σ 92 ((24 * (σ 82 39)) + v1).toNatClampNeg)) (y := 13) (t := 229) zd_104_214 rfl c17]
            rw [zs_aload_n (ls := [some (.ref 82), some (.int v1), some (.int ((24 * (σ 82 39)) + v1))]) zd_104_229 rfl]
            rw [zs_getR (n := 119) (K := zx_pk (zK L) 119) (ρ := zR) (c := 12) (k := 29) (q := 82) (p := 94) zd_104_230 rfl rfl rfl (by decide) rfl]
            rw [zs_iload_n (ls := [some (.ref 82), some (.int v1), some (.int ((24 * (σ 82 39)) + v1))]) zd_104_233 rfl]
            by_cases c18 : 0 ≤ ((24 * (σ 82 39)) + v1) ∧ ((24 * (σ 82 39)) + v1) < 96
            · rw [if_pos c18] at H
              rw [zp_iaload (n := 119) (K := zx_pk (zK L) 119) (σ := σ) (q := 94) (m := 96) (i := ((24 * (σ 82 39)) + v1)) (k := ((24 * (σ 82 39)) + v1).toNatClampNeg) (v := (σ 94 ((24 * (σ 82 39)) + v1).toNatClampNeg)) zd_104_234 rfl (by decide) (zJ_in c18 rfl) rfl rfl]
              exact zt_M_readThread_235 (hk178 := ih) H
            · rw [if_neg c18] at H
              cases H
          · rw [if_neg c17] at H
            rw [zp_icmp_ne_f (x := (σ 92 ((24 * (σ 82 39)) + v1).toNatClampNeg)) (y := 13) (t := 229) zd_104_214 rfl c17]
            rw [zs_aload_n (ls := [some (.ref 82), some (.int v1), some (.int ((24 * (σ 82 39)) + v1))]) zd_104_217 rfl]
            rw [zs_getR (n := 119) (K := zx_pk (zK L) 119) (ρ := zR) (c := 12) (k := 24) (q := 82) (p := 90) zd_104_218 rfl rfl rfl (by decide) rfl]
            rw [zs_aload_n (ls := [some (.ref 82), some (.int v1), some (.int ((24 * (σ 82 39)) + v1))]) zd_104_221 rfl]
            rw [zp_getI (n := 119) (K := zx_pk (zK L) 119) (σ := σ) (c := 12) (k := 39) (q := 82) (v := (σ 82 39)) zd_104_222 rfl rfl rfl (by decide) rfl]
            by_cases c20 : 0 ≤ (σ 82 39) ∧ (σ 82 39) < 4
            · rw [if_pos c20] at H
              rw [zp_iaload (n := 119) (K := zx_pk (zK L) 119) (σ := σ) (q := 90) (m := 4) (i := (σ 82 39)) (k := (σ 82 39).toNatClampNeg) (v := (σ 90 (σ 82 39).toNatClampNeg)) zd_104_225 rfl (by decide) (zJ_in c20 rfl) rfl rfl]
              rw [zs_goto (t := 235) zd_104_226 rfl]
              exact zt_M_readThread_235 (hk178 := ih) H
            · rw [if_neg c20] at H
              cases H
        · rw [if_neg c16] at H
          cases H
    · rw [if_neg c14] at H
      cases H
set_option maxRecDepth 20000 in
theorem zt_M_readThread_155 {a b L N : Nat} {σ : zS} {τ : zT} {o1 : Option Value} {o2 : Option Value} {r : zS} (H : zb_M_readThread_155 N σ = some r) : zx_go 6 104 155 [some (.ref 82), o1, o2] [] ((119, a, b), zx_pk (zK L) 119, σ, τ, zR) = some (none, ((119, a, b), zx_pk (zK L) 119, r, τ, zR)) := by
  unfold zb_M_readThread_155 at H
  rw [zs_aload_n (ls := [some (.ref 82), o1, o2]) zd_104_155 rfl]
  rw [zp_getZ (n := 119) (K := zx_pk (zK L) 119) (σ := σ) (c := 12) (k := 9) (q := 82) (v := (σ 82 9)) zd_104_156 rfl rfl rfl (by decide) rfl]
  by_cases c11 : (σ 82 9) = 0
  · rw [if_pos c11] at H
    rw [zp_if_eq_t (x := (σ 82 9)) (t := 163) zd_104_159 rfl c11]
    rw [zs_aload_n (ls := [some (.ref 82), o1, o2]) zd_104_163 rfl]
    rw [zs_aload_n (ls := [some (.ref 82), o1, o2]) zd_104_164 rfl]
    rw [zs_getR (n := 119) (K := zx_pk (zK L) 119) (ρ := zR) (c := 12) (k := 24) (q := 82) (p := 90) zd_104_165 rfl rfl rfl (by decide) rfl]
    rw [zs_aload_n (ls := [some (.ref 82), o1, o2]) zd_104_168 rfl]
    rw [zp_getI (n := 119) (K := zx_pk (zK L) 119) (σ := σ) (c := 12) (k := 39) (q := 82) (v := (σ 82 39)) zd_104_169 rfl rfl rfl (by decide) rfl]
    by_cases c12 : 0 ≤ (σ 82 39) ∧ (σ 82 39) < 4
    · rw [if_pos c12] at H
      rw [zp_iaload (n := 119) (K := zx_pk (zK L) 119) (σ := σ) (q := 90) (m := 4) (i := (σ 82 39)) (k := (σ 82 39).toNatClampNeg) (v := (σ 90 (σ 82 39).toNatClampNeg)) zd_104_172 rfl (by decide) (zJ_in c12 rfl) rfl rfl]
      obtain ⟨r13, hr13, H⟩ := Option.bind_eq_some_iff.mp H
      rw [zp_callVv (st := [.int (σ 90 (σ 82 39).toNatClampNeg), .ref 82]) (as := [.ref 82, .int (σ 90 (σ 82 39).toNatClampNeg)]) (rest := []) (e := 0) zd_104_173 rfl (by decide +kernel) (by decide) rfl rfl (Nat.le_of_ble_eq_true rfl) (zx_rcb_ok rfl (show 82 < 119 by decide)) (Nat.le_of_ble_eq_true rfl) rfl (by decide) (zt_M_lead hr13)]
      rw [zs_iconst (z := 0) zd_104_176 (by decide)]
      rw [zs_istore_n (x := 0) (ls' := [some (.ref 82), some (.int 0), o2]) zd_104_177 (Nat.le_of_ble_eq_true rfl) rfl]
      exact zt_M_readThread_178  H
    · rw [if_neg c12] at H
      cases H
  · rw [if_neg c11] at H
    rw [zp_if_eq_f (x := (σ 82 9)) (t := 163) zd_104_159 rfl c11]
    have H := Option.some.inj H
    subst H
    exact zs_return zd_104_162 (by decide +kernel)
set_option maxRecDepth 20000 in
theorem zt_M_readThread_118 {a b L N : Nat} : ∀ {n : Nat} {σ : zS} {τ : zT} {o1 : Option Value} {o2 : Option Value} {r : zS}, zb_M_readThread_118 N n σ = some r → zx_go 6 104 118 [some (.ref 82), o1, o2] [] ((119, a, b), zx_pk (zK L) 119, σ, τ, zR) = some (none, ((119, a, b), zx_pk (zK L) 119, r, τ, zR)) := by
  intro n
  induction n with
  | zero =>
    intro _ _ _ _ _ H
    cases H
  | succ n ih =>
    intro σ τ o1 o2 r H
    rw [zb_M_readThread_118] at H
    rw [zs_aload_n (ls := [some (.ref 82), o1, o2]) zd_104_118 rfl]
    rw [zp_getZ (n := 119) (K := zx_pk (zK L) 119) (σ := σ) (c := 12) (k := 9) (q := 82) (v := (σ 82 9)) zd_104_119 rfl rfl rfl (by decide) rfl]
    by_cases c10 : ¬ (σ 82 9) = 0
    · rw [if_pos c10] at H
      rw [zp_if_ne_t (x := (σ 82 9)) (t := 155) zd_104_122 rfl c10]
      exact zt_M_readThread_155  H
    · rw [if_neg c10] at H
      rw [zp_if_ne_f (x := (σ 82 9)) (t := 155) zd_104_122 rfl c10]
      rw [zs_aload_n (ls := [some (.ref 82), o1, o2]) zd_104_125 rfl]
      rw [zp_getI (n := 119) (K := zx_pk (zK L) 119) (σ := σ) (c := 12) (k := 46) (q := 82) (v := (σ 82 46)) zd_104_126 rfl rfl rfl (by decide) rfl]
      by_cases c21 : (σ 82 46) ≤ 0
      · rw [if_pos c21] at H
        rw [zp_if_le_t (x := (σ 82 46)) (t := 155) zd_104_129 rfl c21]
        exact zt_M_readThread_155  H
      · rw [if_neg c21] at H
        rw [zp_if_le_f (x := (σ 82 46)) (t := 155) zd_104_129 rfl c21]
        rw [zs_aload_n (ls := [some (.ref 82), o1, o2]) zd_104_132 rfl]
        rw [zs_bipush (z := 125) zd_104_133 (by decide)]
        obtain ⟨r22, hr22, H⟩ := Option.bind_eq_some_iff.mp H
        rw [zp_callVi (x := r22) (st := [.int 125, .ref 82]) (as := [.ref 82, .int 125]) (rest := []) (e := 0) zd_104_135 rfl (by decide +kernel) (by decide) rfl rfl (Nat.le_of_ble_eq_true rfl) (zx_rcb_ok rfl (show 82 < 119 by decide)) (Nat.le_of_ble_eq_true rfl) rfl (by decide) (zt_M_isSign hr22)]
        by_cases c23 : r22 = 0
        · rw [if_pos c23] at H
          rw [zp_if_eq_t (x := r22) (t := 148) zd_104_138 rfl c23]
          rw [zs_aload_n (ls := [some (.ref 82), o1, o2]) zd_104_148 rfl]
          obtain ⟨r24, hr24, H⟩ := Option.bind_eq_some_iff.mp H
          rw [zp_callVv (st := [.ref 82]) (as := [.ref 82]) (rest := []) (e := 5) zd_104_149 rfl (by decide +kernel) (by decide) rfl rfl (Nat.le_of_ble_eq_true rfl) (zx_rcb_ok rfl (show 82 < 119 by decide)) (Nat.le_of_ble_eq_true rfl) rfl (by decide) (zt_M_statement hr24)]
          rw [zs_goto (t := 118) zd_104_152 rfl]
          exact ih H
        · rw [if_neg c23] at H
          rw [zp_if_eq_f (x := r22) (t := 148) zd_104_138 rfl c23]
          rw [zs_aload_n (ls := [some (.ref 82), o1, o2]) zd_104_141 rfl]
          obtain ⟨r25, hr25, H⟩ := Option.bind_eq_some_iff.mp H
          rw [zp_callVv (st := [.ref 82]) (as := [.ref 82]) (rest := []) (e := 4) zd_104_142 rfl (by decide +kernel) (by decide) rfl rfl (Nat.le_of_ble_eq_true rfl) (zx_rcb_ok rfl (show 82 < 119 by decide)) (Nat.le_of_ble_eq_true rfl) rfl (by decide) (zt_M_closeBlock hr25)]
          rw [zs_goto (t := 118) zd_104_145 rfl]
          exact ih H
set_option maxRecDepth 20000 in
theorem zt_M_readThread {a b L N : Nat} {σ : zS} {τ : zT} {r : zS} (H : zf_M_readThread N σ = some r) : zx_go 6 104 0 [some (.ref 82), none, none] [] ((119, a, b), zx_pk (zK L) 119, σ, τ, zR) = some (none, ((119, a, b), zx_pk (zK L) 119, r, τ, zR)) := by
  unfold zf_M_readThread at H
  rw [zs_aload_n (ls := [some (.ref 82), none, none]) zd_104_0 rfl]
  obtain ⟨r1, hr1, H⟩ := Option.bind_eq_some_iff.mp H
  rw [zp_callVv (st := [.ref 82]) (as := [.ref 82]) (rest := []) (e := 2) zd_104_1 rfl (by decide +kernel) (by decide) rfl rfl (Nat.le_of_ble_eq_true rfl) (zx_rcb_ok rfl (show 82 < 119 by decide)) (Nat.le_of_ble_eq_true rfl) rfl (by decide) (zt_M_next hr1)]
  rw [zs_aload_n (ls := [some (.ref 82), none, none]) zd_104_4 rfl]
  rw [zp_getI (n := 119) (K := zx_pk (zK L) 119) (σ := r1) (c := 12) (k := 7) (q := 82) (v := (r1 82 7)) zd_104_5 rfl rfl rfl (by decide) rfl]
  rw [zs_iconst (z := 2) zd_104_8 (by decide)]
  by_cases c2 : (r1 82 7) = 2
  · rw [if_pos c2] at H
    rw [zp_icmp_eq_t (x := (r1 82 7)) (y := 2) (t := 17) zd_104_9 rfl c2]
    rw [zs_aload_n (ls := [some (.ref 82), none, none]) zd_104_17 rfl]
    obtain ⟨r3, hr3, H⟩ := Option.bind_eq_some_iff.mp H
    rw [zp_callVi (x := r3) (st := [.ref 82]) (as := [.ref 82]) (rest := []) (e := 2) zd_104_18 rfl (by decide +kernel) (by decide) rfl rfl (Nat.le_of_ble_eq_true rfl) (zx_rcb_ok rfl (show 82 < 119 by decide)) (Nat.le_of_ble_eq_true rfl) rfl (by decide) (zt_M_isTold hr3)]
    by_cases c4 : r3 = 0
    · rw [if_pos c4] at H
      rw [zp_if_eq_t (x := r3) (t := 30) zd_104_21 rfl c4]
      rw [zs_aload_n (ls := [some (.ref 82), none, none]) zd_104_30 rfl]
      rw [zp_getI (n := 119) (K := zx_pk (zK L) 119) (σ := r1) (c := 12) (k := 17) (q := 82) (v := (r1 82 17)) zd_104_31 rfl rfl rfl (by decide) rfl]
      rw [zs_iconst (z := 4) zd_104_34 (by decide)]
      by_cases c5 : ¬ (r1 82 17) = 4
      · rw [if_pos c5] at H
        rw [zp_icmp_ne_t (x := (r1 82 17)) (y := 4) (t := 44) zd_104_35 rfl c5]
        rw [zs_aload_n (ls := [some (.ref 82), none, none]) zd_104_44 rfl]
        rw [zs_bipush (z := 10) zd_104_45 (by decide)]
        rw [zs_aload_n (ls := [some (.ref 82), none, none]) zd_104_47 rfl]
        rw [zp_getI (n := 119) (K := zx_pk (zK L) 119) (σ := r1) (c := 12) (k := 17) (q := 82) (v := (r1 82 17)) zd_104_48 rfl rfl rfl (by decide) rfl]
        rw [zp_iadd (x := 10) (y := (r1 82 17)) (z := (10 + (r1 82 17))) zd_104_51 rfl]
        obtain ⟨r6, hr6, H⟩ := Option.bind_eq_some_iff.mp H
        rw [zp_callVv (st := [.int (10 + (r1 82 17)), .ref 82]) (as := [.ref 82, .int (10 + (r1 82 17))]) (rest := []) (e := 0) zd_104_52 rfl (by decide +kernel) (by decide) rfl rfl (Nat.le_of_ble_eq_true rfl) (zx_rcb_ok rfl (show 82 < 119 by decide)) (Nat.le_of_ble_eq_true rfl) rfl (by decide) (zt_M_call hr6)]
        rw [zs_aload_n (ls := [some (.ref 82), none, none]) zd_104_55 rfl]
        rw [zs_aload_n (ls := [some (.ref 82), none, none]) zd_104_56 rfl]
        rw [zp_getI (n := 119) (K := zx_pk (zK L) 119) (σ := r6) (c := 12) (k := 17) (q := 82) (v := (r6 82 17)) zd_104_57 rfl rfl rfl (by decide) rfl]
        rw [zs_putI (n := 119) (K := zx_pk (zK L) 119) (c := 12) (k := 39) (q := 82) (x := (r6 82 17)) zd_104_60 rfl rfl (by decide +kernel) rfl (by decide)]
        rw [zs_aload_n (ls := [some (.ref 82), none, none]) zd_104_63 rfl]
        rw [zs_dup (a := .ref 82) zd_104_64 rfl]
        rw [zp_getI (n := 119) (K := zx_pk (zK L) 119) (σ := (zx_up r6 82 39 (r6 82 17))) (c := 12) (k := 17) (q := 82) (v := (r6 82 17)) zd_104_65 rfl rfl rfl (by decide) (show ((zx_up r6 82 39 (r6 82 17)) : zS) 82 17 = (r6 82 17) from ((zx_up_nj (by decide)).trans rfl))]
        rw [zs_iconst (z := 1) zd_104_68 (by decide)]
        rw [zp_iadd (x := (r6 82 17)) (y := 1) (z := ((r6 82 17) + 1)) zd_104_69 rfl]
        rw [zs_putI (n := 119) (K := zx_pk (zK L) 119) (c := 12) (k := 17) (q := 82) (x := ((r6 82 17) + 1)) zd_104_70 rfl rfl (by decide +kernel) rfl (by decide)]
        rw [zs_aload_n (ls := [some (.ref 82), none, none]) zd_104_73 rfl]
        obtain ⟨r7, hr7, H⟩ := Option.bind_eq_some_iff.mp H
        rw [zp_callVv (st := [.ref 82]) (as := [.ref 82]) (rest := []) (e := 2) zd_104_74 rfl (by decide +kernel) (by decide) rfl rfl (Nat.le_of_ble_eq_true rfl) (zx_rcb_ok rfl (show 82 < 119 by decide)) (Nat.le_of_ble_eq_true rfl) rfl (by decide) (zt_M_next hr7)]
        rw [zs_aload_n (ls := [some (.ref 82), none, none]) zd_104_77 rfl]
        rw [zs_getR (n := 119) (K := zx_pk (zK L) 119) (ρ := zR) (c := 12) (k := 24) (q := 82) (p := 90) zd_104_78 rfl rfl rfl (by decide) rfl]
        rw [zs_aload_n (ls := [some (.ref 82), none, none]) zd_104_81 rfl]
        rw [zp_getI (n := 119) (K := zx_pk (zK L) 119) (σ := r7) (c := 12) (k := 39) (q := 82) (v := (r7 82 39)) zd_104_82 rfl rfl rfl (by decide) rfl]
        rw [zs_iconst (z := 0) zd_104_85 (by decide)]
        by_cases c8 : 0 ≤ (r7 82 39) ∧ (r7 82 39) < 4
        · rw [if_pos c8] at H
          rw [zp_iastore (n := 119) (K := zx_pk (zK L) 119) (q := 90) (m := 4) (i := (r7 82 39)) (k := (r7 82 39).toNatClampNeg) (x := 0) (z := 0) zd_104_86 rfl ⟨by decide, by decide⟩ (zJ_in c8 rfl) rfl rfl]
          rw [zs_aload_n (ls := [some (.ref 82), none, none]) zd_104_87 rfl]
          rw [zs_iconst (z := 0) zd_104_88 (by decide)]
          rw [zs_putI (n := 119) (K := zx_pk (zK L) 119) (c := 12) (k := 18) (q := 82) (x := 0) zd_104_89 rfl rfl (by decide +kernel) rfl (by decide)]
          rw [zs_aload_n (ls := [some (.ref 82), none, none]) zd_104_92 rfl]
          rw [zs_iconst (z := 0) zd_104_93 (by decide)]
          rw [zs_putI (n := 119) (K := zx_pk (zK L) 119) (c := 12) (k := 46) (q := 82) (x := 0) zd_104_94 rfl rfl (by decide +kernel) rfl (by decide)]
          rw [zs_aload_n (ls := [some (.ref 82), none, none]) zd_104_97 rfl]
          rw [zs_iconst (z := 0) zd_104_98 (by decide)]
          rw [zs_putI (n := 119) (K := zx_pk (zK L) 119) (c := 12) (k := 40) (q := 82) (x := 0) zd_104_99 rfl rfl (by decide +kernel) rfl (by decide)]
          rw [zs_aload_n (ls := [some (.ref 82), none, none]) zd_104_102 rfl]
          rw [zs_iconst (z := (-1)) zd_104_103 (by decide)]
          rw [zs_putI (n := 119) (K := zx_pk (zK L) 119) (c := 12) (k := 41) (q := 82) (x := (-1)) zd_104_104 rfl rfl (by decide +kernel) rfl (by decide)]
          rw [zs_aload_n (ls := [some (.ref 82), none, none]) zd_104_107 rfl]
          rw [zs_iconst (z := (-1)) zd_104_108 (by decide)]
          rw [zs_putI (n := 119) (K := zx_pk (zK L) 119) (c := 12) (k := 37) (q := 82) (x := (-1)) zd_104_109 rfl rfl (by decide +kernel) rfl (by decide)]
          rw [zs_aload_n (ls := [some (.ref 82), none, none]) zd_104_112 rfl]
          rw [zs_iconst (z := 0) zd_104_113 (by decide)]
          rw [zs_iconst (z := 0) zd_104_114 (by decide)]
          obtain ⟨r9, hr9, H⟩ := Option.bind_eq_some_iff.mp H
          rw [zp_callVv (st := [.int 0, .int 0, .ref 82]) (as := [.ref 82, .int 0, .int 0]) (rest := []) (e := 3) zd_104_115 rfl (by decide +kernel) (by decide) rfl rfl (Nat.le_of_ble_eq_true rfl) (zx_rcb_ok rfl (show 82 < 119 by decide)) (Nat.le_of_ble_eq_true rfl) rfl (by decide) (zt_M_openBlock hr9)]
          exact zt_M_readThread_118  H
        · rw [if_neg c8] at H
          cases H
      · rw [if_neg c5] at H
        rw [zp_icmp_ne_f (x := (r1 82 17)) (y := 4) (t := 44) zd_104_35 rfl c5]
        rw [zs_aload_n (ls := [some (.ref 82), none, none]) zd_104_38 rfl]
        rw [zs_iconst (z := 4) zd_104_39 (by decide)]
        obtain ⟨r26, hr26, H⟩ := Option.bind_eq_some_iff.mp H
        rw [zp_callVv (st := [.int 4, .ref 82]) (as := [.ref 82, .int 4]) (rest := []) (e := 0) zd_104_40 rfl (by decide +kernel) (by decide) rfl rfl (Nat.le_of_ble_eq_true rfl) (zx_rcb_ok rfl (show 82 < 119 by decide)) (Nat.le_of_ble_eq_true rfl) rfl (by decide) (zt_M_fail hr26)]
        have H := Option.some.inj H
        subst H
        exact zs_return zd_104_43 (by decide +kernel)
    · rw [if_neg c4] at H
      rw [zp_if_eq_f (x := r3) (t := 30) zd_104_21 rfl c4]
      rw [zs_aload_n (ls := [some (.ref 82), none, none]) zd_104_24 rfl]
      rw [zs_iconst (z := 3) zd_104_25 (by decide)]
      obtain ⟨r27, hr27, H⟩ := Option.bind_eq_some_iff.mp H
      rw [zp_callVv (st := [.int 3, .ref 82]) (as := [.ref 82, .int 3]) (rest := []) (e := 0) zd_104_26 rfl (by decide +kernel) (by decide) rfl rfl (Nat.le_of_ble_eq_true rfl) (zx_rcb_ok rfl (show 82 < 119 by decide)) (Nat.le_of_ble_eq_true rfl) rfl (by decide) (zt_M_fail hr27)]
      have H := Option.some.inj H
      subst H
      exact zs_return zd_104_29 (by decide +kernel)
  · rw [if_neg c2] at H
    rw [zp_icmp_eq_f (x := (r1 82 7)) (y := 2) (t := 17) zd_104_9 rfl c2]
    rw [zs_aload_n (ls := [some (.ref 82), none, none]) zd_104_12 rfl]
    obtain ⟨r28, hr28, H⟩ := Option.bind_eq_some_iff.mp H
    rw [zp_callVv (st := [.ref 82]) (as := [.ref 82]) (rest := []) (e := 1) zd_104_13 rfl (by decide +kernel) (by decide) rfl rfl (Nat.le_of_ble_eq_true rfl) (zx_rcb_ok rfl (show 82 < 119 by decide)) (Nat.le_of_ble_eq_true rfl) rfl (by decide) (zt_M_cannot hr28)]
    have H := Option.some.inj H
    subst H
    exact zs_return zd_104_16 (by decide +kernel)
set_option maxRecDepth 20000 in
theorem zt_M_readTold {a b L N : Nat} {σ : zS} {τ : zT} {x1 : Int32} {x2 : Int32} {x3 : Int32} {r : zS} (H : zf_M_readTold N σ x1 x2 x3 = some r) : zx_go 3 92 0 [some (.ref 82), some (.int x1), some (.int x2), some (.int x3)] [] ((119, a, b), zx_pk (zK L) 119, σ, τ, zR) = some (none, ((119, a, b), zx_pk (zK L) 119, r, τ, zR)) := by
  unfold zf_M_readTold at H
  rw [zs_aload_n (ls := [some (.ref 82), some (.int x1), some (.int x2), some (.int x3)]) zd_92_0 rfl]
  rw [zp_getI (n := 119) (K := zx_pk (zK L) 119) (σ := σ) (c := 12) (k := 7) (q := 82) (v := (σ 82 7)) zd_92_1 rfl rfl rfl (by decide) rfl]
  rw [zs_iconst (z := 2) zd_92_4 (by decide)]
  by_cases c1 : (σ 82 7) = 2
  · rw [if_pos c1] at H
    rw [zp_icmp_eq_t (x := (σ 82 7)) (y := 2) (t := 15) zd_92_5 rfl c1]
    rw [zs_aload_n (ls := [some (.ref 82), some (.int x1), some (.int x2), some (.int x3)]) zd_92_15 rfl]
    obtain ⟨r2, hr2, H⟩ := Option.bind_eq_some_iff.mp H
    rw [zp_callVi (x := r2) (st := [.ref 82]) (as := [.ref 82]) (rest := []) (e := 2) zd_92_16 rfl (by decide +kernel) (by decide) rfl rfl (Nat.le_of_ble_eq_true rfl) (zx_rcb_ok rfl (show 82 < 119 by decide)) (Nat.le_of_ble_eq_true rfl) rfl (by decide) (zt_M_isTold hr2)]
    by_cases c3 : r2 = 0
    · rw [if_pos c3] at H
      rw [zp_if_eq_t (x := r2) (t := 30) zd_92_19 rfl c3]
      rw [zs_iload_n (ls := [some (.ref 82), some (.int x1), some (.int x2), some (.int x3)]) zd_92_30 rfl]
      rw [zs_iload_n (ls := [some (.ref 82), some (.int x1), some (.int x2), some (.int x3)]) zd_92_31 rfl]
      by_cases c4 : ¬ x2 = x3
      · rw [if_pos c4] at H
        rw [zp_icmp_ne_t (x := x2) (y := x3) (t := 43) zd_92_32 rfl c4]
        rw [zs_aload_n (ls := [some (.ref 82), some (.int x1), some (.int x2), some (.int x3)]) zd_92_43 rfl]
        rw [zs_iload_n (ls := [some (.ref 82), some (.int x1), some (.int x2), some (.int x3)]) zd_92_44 rfl]
        rw [zs_iload_n (ls := [some (.ref 82), some (.int x1), some (.int x2), some (.int x3)]) zd_92_45 rfl]
        rw [zp_iadd (x := x1) (y := x2) (z := (x1 + x2)) zd_92_46 rfl]
        obtain ⟨r5, hr5, H⟩ := Option.bind_eq_some_iff.mp H
        rw [zp_callVv (st := [.int (x1 + x2), .ref 82]) (as := [.ref 82, .int (x1 + x2)]) (rest := []) (e := 0) zd_92_47 rfl (by decide +kernel) (by decide) rfl rfl (Nat.le_of_ble_eq_true rfl) (zx_rcb_ok rfl (show 82 < 119 by decide)) (Nat.le_of_ble_eq_true rfl) rfl (by decide) (zt_M_call hr5)]
        rw [zs_aload_n (ls := [some (.ref 82), some (.int x1), some (.int x2), some (.int x3)]) zd_92_50 rfl]
        obtain ⟨r6, hr6, H⟩ := Option.bind_eq_some_iff.mp H
        rw [zp_callVv (st := [.ref 82]) (as := [.ref 82]) (rest := []) (e := 2) zd_92_51 rfl (by decide +kernel) (by decide) rfl rfl (Nat.le_of_ble_eq_true rfl) (zx_rcb_ok rfl (show 82 < 119 by decide)) (Nat.le_of_ble_eq_true rfl) rfl (by decide) (zt_M_next hr6)]
        have H := Option.some.inj H
        subst H
        exact zs_return zd_92_54 (by decide +kernel)
      · rw [if_neg c4] at H
        rw [zp_icmp_ne_f (x := x2) (y := x3) (t := 43) zd_92_32 rfl c4]
        rw [zs_aload_n (ls := [some (.ref 82), some (.int x1), some (.int x2), some (.int x3)]) zd_92_35 rfl]
        rw [zs_iconst (z := 4) zd_92_36 (by decide)]
        obtain ⟨r7, hr7, H⟩ := Option.bind_eq_some_iff.mp H
        rw [zp_callVv (st := [.int 4, .ref 82]) (as := [.ref 82, .int 4]) (rest := []) (e := 0) zd_92_37 rfl (by decide +kernel) (by decide) rfl rfl (Nat.le_of_ble_eq_true rfl) (zx_rcb_ok rfl (show 82 < 119 by decide)) (Nat.le_of_ble_eq_true rfl) rfl (by decide) (zt_M_fail hr7)]
        rw [zs_goto (t := 54) zd_92_40 rfl]
        have H := Option.some.inj H
        subst H
        exact zs_return zd_92_54 (by decide +kernel)
    · rw [if_neg c3] at H
      rw [zp_if_eq_f (x := r2) (t := 30) zd_92_19 rfl c3]
      rw [zs_aload_n (ls := [some (.ref 82), some (.int x1), some (.int x2), some (.int x3)]) zd_92_22 rfl]
      rw [zs_iconst (z := 3) zd_92_23 (by decide)]
      obtain ⟨r8, hr8, H⟩ := Option.bind_eq_some_iff.mp H
      rw [zp_callVv (st := [.int 3, .ref 82]) (as := [.ref 82, .int 3]) (rest := []) (e := 0) zd_92_24 rfl (by decide +kernel) (by decide) rfl rfl (Nat.le_of_ble_eq_true rfl) (zx_rcb_ok rfl (show 82 < 119 by decide)) (Nat.le_of_ble_eq_true rfl) rfl (by decide) (zt_M_fail hr8)]
      rw [zs_goto (t := 54) zd_92_27 rfl]
      have H := Option.some.inj H
      subst H
      exact zs_return zd_92_54 (by decide +kernel)
  · rw [if_neg c1] at H
    rw [zp_icmp_eq_f (x := (σ 82 7)) (y := 2) (t := 15) zd_92_5 rfl c1]
    rw [zs_aload_n (ls := [some (.ref 82), some (.int x1), some (.int x2), some (.int x3)]) zd_92_8 rfl]
    obtain ⟨r9, hr9, H⟩ := Option.bind_eq_some_iff.mp H
    rw [zp_callVv (st := [.ref 82]) (as := [.ref 82]) (rest := []) (e := 1) zd_92_9 rfl (by decide +kernel) (by decide) rfl rfl (Nat.le_of_ble_eq_true rfl) (zx_rcb_ok rfl (show 82 < 119 by decide)) (Nat.le_of_ble_eq_true rfl) rfl (by decide) (zt_M_cannot hr9)]
    rw [zs_goto (t := 54) zd_92_12 rfl]
    have H := Option.some.inj H
    subst H
    exact zs_return zd_92_54 (by decide +kernel)
set_option maxRecDepth 20000 in
theorem zt_M_readField_86 {a b L N : Nat} {σ : zS} {τ : zT} {o1 : Option Value} {r : zS} (H : zb_M_readField_86 N σ = some r) : zx_go 4 103 86 [some (.ref 82), o1] [] ((119, a, b), zx_pk (zK L) 119, σ, τ, zR) = some (none, ((119, a, b), zx_pk (zK L) 119, r, τ, zR)) := by
  unfold zb_M_readField_86 at H
  rw [zs_aload_n (ls := [some (.ref 82), o1]) zd_103_86 rfl]
  rw [zs_dup (a := .ref 82) zd_103_87 rfl]
  rw [zp_getI (n := 119) (K := zx_pk (zK L) 119) (σ := σ) (c := 12) (k := 15) (q := 82) (v := (σ 82 15)) zd_103_88 rfl rfl rfl (by decide) rfl]
  rw [zs_iconst (z := 1) zd_103_91 (by decide)]
  rw [zp_iadd (x := (σ 82 15)) (y := 1) (z := ((σ 82 15) + 1)) zd_103_92 rfl]
  rw [zs_putI (n := 119) (K := zx_pk (zK L) 119) (c := 12) (k := 15) (q := 82) (x := ((σ 82 15) + 1)) zd_103_93 rfl rfl (by decide +kernel) rfl (by decide)]
  rw [zs_aload_n (ls := [some (.ref 82), o1]) zd_103_96 rfl]
  rw [zs_bipush (z := 59) zd_103_97 (by decide)]
  obtain ⟨r8, hr8, H⟩ := Option.bind_eq_some_iff.mp H
  rw [zp_callVv (st := [.int 59, .ref 82]) (as := [.ref 82, .int 59]) (rest := []) (e := 3) zd_103_99 rfl (by decide +kernel) (by decide) rfl rfl (Nat.le_of_ble_eq_true rfl) (zx_rcb_ok rfl (show 82 < 119 by decide)) (Nat.le_of_ble_eq_true rfl) rfl (by decide) (zt_M_take hr8)]
  have H := Option.some.inj H
  subst H
  exact zs_return zd_103_102 (by decide +kernel)
set_option maxRecDepth 20000 in
theorem zt_M_readField {a b L N : Nat} {σ : zS} {τ : zT} {x1 : Int32} {r : zS} (H : zf_M_readField N σ x1 = some r) : zx_go 4 103 0 [some (.ref 82), some (.int x1)] [] ((119, a, b), zx_pk (zK L) 119, σ, τ, zR) = some (none, ((119, a, b), zx_pk (zK L) 119, r, τ, zR)) := by
  unfold zf_M_readField at H
  rw [zs_aload_n (ls := [some (.ref 82), some (.int x1)]) zd_103_0 rfl]
  obtain ⟨r1, hr1, H⟩ := Option.bind_eq_some_iff.mp H
  rw [zp_callVv (st := [.ref 82]) (as := [.ref 82]) (rest := []) (e := 2) zd_103_1 rfl (by decide +kernel) (by decide) rfl rfl (Nat.le_of_ble_eq_true rfl) (zx_rcb_ok rfl (show 82 < 119 by decide)) (Nat.le_of_ble_eq_true rfl) rfl (by decide) (zt_M_next hr1)]
  rw [zs_aload_n (ls := [some (.ref 82), some (.int x1)]) zd_103_4 rfl]
  rw [zs_iconst (z := 0) zd_103_5 (by decide)]
  rw [zs_aload_n (ls := [some (.ref 82), some (.int x1)]) zd_103_6 rfl]
  rw [zp_getI (n := 119) (K := zx_pk (zK L) 119) (σ := r1) (c := 12) (k := 15) (q := 82) (v := (r1 82 15)) zd_103_7 rfl rfl rfl (by decide) rfl]
  rw [zs_bipush (z := 6) zd_103_10 (by decide)]
  obtain ⟨r2, hr2, H⟩ := Option.bind_eq_some_iff.mp H
  rw [zp_callVv (st := [.int 6, .int (r1 82 15), .int 0, .ref 82]) (as := [.ref 82, .int 0, .int (r1 82 15), .int 6]) (rest := []) (e := 3) zd_103_12 rfl (by decide +kernel) (by decide) rfl rfl (Nat.le_of_ble_eq_true rfl) (zx_rcb_ok rfl (show 82 < 119 by decide)) (Nat.le_of_ble_eq_true rfl) rfl (by decide) (zt_M_readTold hr2)]
  rw [zs_aload_n (ls := [some (.ref 82), some (.int x1)]) zd_103_15 rfl]
  rw [zp_getZ (n := 119) (K := zx_pk (zK L) 119) (σ := r2) (c := 12) (k := 9) (q := 82) (v := (r2 82 9)) zd_103_16 rfl rfl rfl (by decide) rfl]
  by_cases c3 : (r2 82 9) = 0
  · rw [if_pos c3] at H
    rw [zp_if_eq_t (x := (r2 82 9)) (t := 23) zd_103_19 rfl c3]
    rw [zs_aload_n (ls := [some (.ref 82), some (.int x1)]) zd_103_23 rfl]
    rw [zs_getR (n := 119) (K := zx_pk (zK L) 119) (ρ := zR) (c := 12) (k := 22) (q := 82) (p := 88) zd_103_24 rfl rfl rfl (by decide) rfl]
    rw [zs_aload_n (ls := [some (.ref 82), some (.int x1)]) zd_103_27 rfl]
    rw [zp_getI (n := 119) (K := zx_pk (zK L) 119) (σ := r2) (c := 12) (k := 15) (q := 82) (v := (r2 82 15)) zd_103_28 rfl rfl rfl (by decide) rfl]
    rw [zs_iload_n (ls := [some (.ref 82), some (.int x1)]) zd_103_31 rfl]
    by_cases c4 : 0 ≤ (r2 82 15) ∧ (r2 82 15) < 6
    · rw [if_pos c4] at H
      rw [zp_zastore (n := 119) (K := zx_pk (zK L) 119) (q := 88) (m := 6) (i := (r2 82 15)) (k := (r2 82 15).toNatClampNeg) (x := x1) (z := (x1 &&& 1)) zd_103_32 rfl ⟨by decide, by decide⟩ (zJ_in c4 rfl) rfl rfl]
      rw [zs_aload_n (ls := [some (.ref 82), some (.int x1)]) zd_103_33 rfl]
      rw [zs_getR (n := 119) (K := zx_pk (zK L) 119) (ρ := zR) (c := 12) (k := 23) (q := 82) (p := 89) zd_103_34 rfl rfl rfl (by decide) rfl]
      rw [zs_aload_n (ls := [some (.ref 82), some (.int x1)]) zd_103_37 rfl]
      rw [zp_getI (n := 119) (K := zx_pk (zK L) 119) (σ := (zx_up r2 88 (r2 82 15).toNatClampNeg (x1 &&& 1))) (c := 12) (k := 15) (q := 82) (v := (r2 82 15)) zd_103_38 rfl rfl rfl (by decide) (show ((zx_up r2 88 (r2 82 15).toNatClampNeg (x1 &&& 1)) : zS) 82 15 = (r2 82 15) from ((zx_up_ne (by decide)).trans rfl))]
      rw [zs_iconst (z := 0) zd_103_41 (by decide)]
      by_cases c5 : 0 ≤ (r2 82 15) ∧ (r2 82 15) < 6
      · rw [if_pos c5] at H
        rw [zp_iastore (n := 119) (K := zx_pk (zK L) 119) (q := 89) (m := 6) (i := (r2 82 15)) (k := (r2 82 15).toNatClampNeg) (x := 0) (z := 0) zd_103_42 rfl ⟨by decide, by decide⟩ (zJ_in c5 rfl) rfl rfl]
        rw [zs_aload_n (ls := [some (.ref 82), some (.int x1)]) zd_103_43 rfl]
        rw [zs_bipush (z := 61) zd_103_44 (by decide)]
        obtain ⟨r6, hr6, H⟩ := Option.bind_eq_some_iff.mp H
        rw [zp_callVi (x := r6) (st := [.int 61, .ref 82]) (as := [.ref 82, .int 61]) (rest := []) (e := 0) zd_103_46 rfl (by decide +kernel) (by decide) rfl rfl (Nat.le_of_ble_eq_true rfl) (zx_rcb_ok rfl (show 82 < 119 by decide)) (Nat.le_of_ble_eq_true rfl) rfl (by decide) (zt_M_isSign hr6)]
        by_cases c7 : r6 = 0
        · rw [if_pos c7] at H
          rw [zp_if_eq_t (x := r6) (t := 86) zd_103_49 rfl c7]
          exact zt_M_readField_86  H
        · rw [if_neg c7] at H
          rw [zp_if_eq_f (x := r6) (t := 86) zd_103_49 rfl c7]
          rw [zs_aload_n (ls := [some (.ref 82), some (.int x1)]) zd_103_52 rfl]
          obtain ⟨r9, hr9, H⟩ := Option.bind_eq_some_iff.mp H
          rw [zp_callVv (st := [.ref 82]) (as := [.ref 82]) (rest := []) (e := 2) zd_103_53 rfl (by decide +kernel) (by decide) rfl rfl (Nat.le_of_ble_eq_true rfl) (zx_rcb_ok rfl (show 82 < 119 by decide)) (Nat.le_of_ble_eq_true rfl) rfl (by decide) (zt_M_next hr9)]
          rw [zs_aload_n (ls := [some (.ref 82), some (.int x1)]) zd_103_56 rfl]
          rw [zs_getR (n := 119) (K := zx_pk (zK L) 119) (ρ := zR) (c := 12) (k := 23) (q := 82) (p := 89) zd_103_57 rfl rfl rfl (by decide) rfl]
          rw [zs_aload_n (ls := [some (.ref 82), some (.int x1)]) zd_103_60 rfl]
          rw [zp_getI (n := 119) (K := zx_pk (zK L) 119) (σ := r9) (c := 12) (k := 15) (q := 82) (v := (r9 82 15)) zd_103_61 rfl rfl rfl (by decide) rfl]
          rw [zs_aload_n (ls := [some (.ref 82), some (.int x1)]) zd_103_64 rfl]
          rw [zp_getI (n := 119) (K := zx_pk (zK L) 119) (σ := r9) (c := 12) (k := 8) (q := 82) (v := (r9 82 8)) zd_103_65 rfl rfl rfl (by decide) rfl]
          by_cases c10 : 0 ≤ (r9 82 15) ∧ (r9 82 15) < 6
          · rw [if_pos c10] at H
            rw [zp_iastore (n := 119) (K := zx_pk (zK L) 119) (q := 89) (m := 6) (i := (r9 82 15)) (k := (r9 82 15).toNatClampNeg) (x := (r9 82 8)) (z := (r9 82 8)) zd_103_68 rfl ⟨by decide, by decide⟩ (zJ_in c10 rfl) rfl rfl]
            rw [zs_aload_n (ls := [some (.ref 82), some (.int x1)]) zd_103_69 rfl]
            rw [zp_getI (n := 119) (K := zx_pk (zK L) 119) (σ := (zx_up r9 89 (r9 82 15).toNatClampNeg (r9 82 8))) (c := 12) (k := 7) (q := 82) (v := (r9 82 7)) zd_103_70 rfl rfl rfl (by decide) (show ((zx_up r9 89 (r9 82 15).toNatClampNeg (r9 82 8)) : zS) 82 7 = (r9 82 7) from ((zx_up_ne (by decide)).trans rfl))]
            rw [zs_iconst (z := 3) zd_103_73 (by decide)]
            by_cases c11 : (r9 82 7) = 3
            · rw [if_pos c11] at H
              rw [zp_icmp_eq_t (x := (r9 82 7)) (y := 3) (t := 82) zd_103_74 rfl c11]
              rw [zs_aload_n (ls := [some (.ref 82), some (.int x1)]) zd_103_82 rfl]
              obtain ⟨r12, hr12, H⟩ := Option.bind_eq_some_iff.mp H
              rw [zp_callVv (st := [.ref 82]) (as := [.ref 82]) (rest := []) (e := 2) zd_103_83 rfl (by decide +kernel) (by decide) rfl rfl (Nat.le_of_ble_eq_true rfl) (zx_rcb_ok rfl (show 82 < 119 by decide)) (Nat.le_of_ble_eq_true rfl) rfl (by decide) (zt_M_next hr12)]
              exact zt_M_readField_86  H
            · rw [if_neg c11] at H
              rw [zp_icmp_eq_f (x := (r9 82 7)) (y := 3) (t := 82) zd_103_74 rfl c11]
              rw [zs_aload_n (ls := [some (.ref 82), some (.int x1)]) zd_103_77 rfl]
              obtain ⟨r13, hr13, H⟩ := Option.bind_eq_some_iff.mp H
              rw [zp_callVv (st := [.ref 82]) (as := [.ref 82]) (rest := []) (e := 1) zd_103_78 rfl (by decide +kernel) (by decide) rfl rfl (Nat.le_of_ble_eq_true rfl) (zx_rcb_ok rfl (show 82 < 119 by decide)) (Nat.le_of_ble_eq_true rfl) rfl (by decide) (zt_M_cannot hr13)]
              have H := Option.some.inj H
              subst H
              exact zs_return zd_103_81 (by decide +kernel)
          · rw [if_neg c10] at H
            cases H
      · rw [if_neg c5] at H
        cases H
    · rw [if_neg c4] at H
      cases H
  · rw [if_neg c3] at H
    rw [zp_if_eq_f (x := (r2 82 9)) (t := 23) zd_103_19 rfl c3]
    have H := Option.some.inj H
    subst H
    exact zs_return zd_103_22 (by decide +kernel)
set_option maxRecDepth 20000 in
theorem zt_M_read_268 {a b L N : Nat} {σ : zS} {τ : zT} {s0 : Int32} {o1 : Option Value} {r : Int32 × zS} (H : zb_M_read_268 N σ s0 = some r) : zx_go 7 85 268 [some (.ref 82), o1] [.int s0, .ref 82] ((119, a, b), zx_pk (zK L) 119, σ, τ, zR) = some (some (.int r.1), ((119, a, b), zx_pk (zK L) 119, r.2, τ, zR)) := by
  unfold zb_M_read_268 at H
  by_cases c8 : s0 = 0 ∨ s0 = 1
  · rw [if_pos c8] at H
    rw [zs_putZ (n := 119) (K := zx_pk (zK L) 119) (c := 12) (k := 21) (q := 82) (x := s0) zd_85_268 rfl rfl (by decide +kernel) rfl (by decide) (zJ_bt c8)]
    rw [zs_aload_n (ls := [some (.ref 82), o1]) zd_85_271 rfl]
    rw [zs_aload_n (ls := [some (.ref 82), o1]) zd_85_272 rfl]
    rw [zp_getI (n := 119) (K := zx_pk (zK L) 119) (σ := (zx_up σ 82 21 s0)) (c := 12) (k := 10) (q := 82) (v := (σ 82 10)) zd_85_273 rfl rfl rfl (by decide) (show ((zx_up σ 82 21 s0) : zS) 82 10 = (σ 82 10) from ((zx_up_nj (by decide)).trans rfl))]
    rw [zs_putI (n := 119) (K := zx_pk (zK L) 119) (c := 12) (k := 12) (q := 82) (x := (σ 82 10)) zd_85_276 rfl rfl (by decide +kernel) rfl (by decide)]
    rw [zs_aload_n (ls := [some (.ref 82), o1]) zd_85_279 rfl]
    rw [zp_getZ (n := 119) (K := zx_pk (zK L) 119) (σ := (zx_up (zx_up σ 82 21 s0) 82 12 (σ 82 10))) (c := 12) (k := 9) (q := 82) (v := (σ 82 9)) zd_85_280 rfl rfl rfl (by decide) (show ((zx_up (zx_up σ 82 21 s0) 82 12 (σ 82 10)) : zS) 82 9 = (σ 82 9) from ((zx_up_nj (by decide)).trans ((zx_up_nj (by decide)).trans rfl)))]
    by_cases c9 : (σ 82 9) = 0
    · rw [if_pos c9] at H
      rw [zp_if_eq_t (x := (σ 82 9)) (t := 297) zd_85_283 rfl c9]
      rw [zs_aload_n (ls := [some (.ref 82), o1]) zd_85_297 rfl]
      obtain ⟨r10, hr10, H⟩ := Option.bind_eq_some_iff.mp H
      rw [zp_callVi (x := r10) (st := [.ref 82]) (as := [.ref 82]) (rest := []) (e := 0) zd_85_298 rfl (by decide +kernel) (by decide) rfl rfl (Nat.le_of_ble_eq_true rfl) (zx_rcb_ok rfl (show 82 < 119 by decide)) (Nat.le_of_ble_eq_true rfl) rfl (by decide) (zt_M_allSteps hr10)]
      have H := Option.some.inj H
      subst H
      exact zs_ireturn zd_85_301 rfl
    · rw [if_neg c9] at H
      rw [zp_if_eq_f (x := (σ 82 9)) (t := 297) zd_85_283 rfl c9]
      rw [zs_sipush (z := (-1000)) zd_85_286 (by decide)]
      rw [zs_aload_n (ls := [some (.ref 82), o1]) zd_85_289 rfl]
      rw [zp_getI (n := 119) (K := zx_pk (zK L) 119) (σ := (zx_up (zx_up σ 82 21 s0) 82 12 (σ 82 10))) (c := 12) (k := 11) (q := 82) (v := (σ 82 11)) zd_85_290 rfl rfl rfl (by decide) (show ((zx_up (zx_up σ 82 21 s0) 82 12 (σ 82 10)) : zS) 82 11 = (σ 82 11) from ((zx_up_nj (by decide)).trans ((zx_up_nj (by decide)).trans rfl)))]
      rw [zp_isub (x := (-1000)) (y := (σ 82 11)) (z := ((-1000) - (σ 82 11))) zd_85_293 rfl]
      rw [zs_goto (t := 301) zd_85_294 rfl]
      have H := Option.some.inj H
      subst H
      exact zs_ireturn zd_85_301 rfl
  · rw [if_neg c8] at H
    cases H
set_option maxRecDepth 20000 in
theorem zt_M_read_255 {a b L N : Nat} {σ : zS} {τ : zT} {o1 : Option Value} {r : Int32 × zS} (H : zb_M_read_255 N σ = some r) : zx_go 7 85 255 [some (.ref 82), o1] [] ((119, a, b), zx_pk (zK L) 119, σ, τ, zR) = some (some (.int r.1), ((119, a, b), zx_pk (zK L) 119, r.2, τ, zR)) := by
  unfold zb_M_read_255 at H
  rw [zs_aload_n (ls := [some (.ref 82), o1]) zd_85_255 rfl]
  rw [zs_aload_n (ls := [some (.ref 82), o1]) zd_85_256 rfl]
  rw [zp_getZ (n := 119) (K := zx_pk (zK L) 119) (σ := σ) (c := 12) (k := 9) (q := 82) (v := (σ 82 9)) zd_85_257 rfl rfl rfl (by decide) rfl]
  by_cases c7 : ¬ (σ 82 9) = 0
  · rw [if_pos c7] at H
    rw [zp_if_ne_t (x := (σ 82 9)) (t := 267) zd_85_260 rfl c7]
    rw [zs_iconst (z := 0) zd_85_267 (by decide)]
    exact zt_M_read_268  H
  · rw [if_neg c7] at H
    rw [zp_if_ne_f (x := (σ 82 9)) (t := 267) zd_85_260 rfl c7]
    rw [zs_iconst (z := 1) zd_85_263 (by decide)]
    rw [zs_goto (t := 268) zd_85_264 rfl]
    exact zt_M_read_268  H
set_option maxRecDepth 20000 in
theorem zt_M_read_244 {a b L N : Nat} {σ : zS} {τ : zT} {o1 : Option Value} {r : Int32 × zS} (H : zb_M_read_244 N σ = some r) : zx_go 7 85 244 [some (.ref 82), o1] [] ((119, a, b), zx_pk (zK L) 119, σ, τ, zR) = some (some (.int r.1), ((119, a, b), zx_pk (zK L) 119, r.2, τ, zR)) := by
  unfold zb_M_read_244 at H
  rw [zs_aload_n (ls := [some (.ref 82), o1]) zd_85_244 rfl]
  rw [zp_getZ (n := 119) (K := zx_pk (zK L) 119) (σ := σ) (c := 12) (k := 9) (q := 82) (v := (σ 82 9)) zd_85_245 rfl rfl rfl (by decide) rfl]
  by_cases c6 : ¬ (σ 82 9) = 0
  · rw [if_pos c6] at H
    rw [zp_if_ne_t (x := (σ 82 9)) (t := 255) zd_85_248 rfl c6]
    exact zt_M_read_255  H
  · rw [if_neg c6] at H
    rw [zp_if_ne_f (x := (σ 82 9)) (t := 255) zd_85_248 rfl c6]
    rw [zs_aload_n (ls := [some (.ref 82), o1]) zd_85_251 rfl]
    obtain ⟨r11, hr11, H⟩ := Option.bind_eq_some_iff.mp H
    rw [zp_callVv (st := [.ref 82]) (as := [.ref 82]) (rest := []) (e := 0) zd_85_252 rfl (by decide +kernel) (by decide) rfl rfl (Nat.le_of_ble_eq_true rfl) (zx_rcb_ok rfl (show 82 < 119 by decide)) (Nat.le_of_ble_eq_true rfl) rfl (by decide) (zt_M_findLaters hr11)]
    exact zt_M_read_255  H
set_option maxRecDepth 20000 in
theorem zt_M_read_226 {a b L N : Nat} {σ : zS} {τ : zT} {o1 : Option Value} {r : Int32 × zS} (H : zb_M_read_226 N σ = some r) : zx_go 7 85 226 [some (.ref 82), o1] [] ((119, a, b), zx_pk (zK L) 119, σ, τ, zR) = some (some (.int r.1), ((119, a, b), zx_pk (zK L) 119, r.2, τ, zR)) := by
  unfold zb_M_read_226 at H
  rw [zs_aload_n (ls := [some (.ref 82), o1]) zd_85_226 rfl]
  rw [zp_getZ (n := 119) (K := zx_pk (zK L) 119) (σ := σ) (c := 12) (k := 9) (q := 82) (v := (σ 82 9)) zd_85_227 rfl rfl rfl (by decide) rfl]
  by_cases c5 : ¬ (σ 82 9) = 0
  · rw [if_pos c5] at H
    rw [zp_if_ne_t (x := (σ 82 9)) (t := 244) zd_85_230 rfl c5]
    exact zt_M_read_244  H
  · rw [if_neg c5] at H
    rw [zp_if_ne_f (x := (σ 82 9)) (t := 244) zd_85_230 rfl c5]
    rw [zs_aload_n (ls := [some (.ref 82), o1]) zd_85_233 rfl]
    rw [zp_getI (n := 119) (K := zx_pk (zK L) 119) (σ := σ) (c := 12) (k := 7) (q := 82) (v := (σ 82 7)) zd_85_234 rfl rfl rfl (by decide) rfl]
    by_cases c12 : (σ 82 7) = 0
    · rw [if_pos c12] at H
      rw [zp_if_eq_t (x := (σ 82 7)) (t := 244) zd_85_237 rfl c12]
      exact zt_M_read_244  H
    · rw [if_neg c12] at H
      rw [zp_if_eq_f (x := (σ 82 7)) (t := 244) zd_85_237 rfl c12]
      rw [zs_aload_n (ls := [some (.ref 82), o1]) zd_85_240 rfl]
      obtain ⟨r13, hr13, H⟩ := Option.bind_eq_some_iff.mp H
      rw [zp_callVv (st := [.ref 82]) (as := [.ref 82]) (rest := []) (e := 1) zd_85_241 rfl (by decide +kernel) (by decide) rfl rfl (Nat.le_of_ble_eq_true rfl) (zx_rcb_ok rfl (show 82 < 119 by decide)) (Nat.le_of_ble_eq_true rfl) rfl (by decide) (zt_M_cannot hr13)]
      exact zt_M_read_244  H
set_option maxRecDepth 20000 in
theorem zt_M_read_204 {a b L N : Nat} : ∀ {n : Nat} {σ : zS} {τ : zT} {o1 : Option Value} {r : Int32 × zS}, zb_M_read_204 N n σ = some r → zx_go 7 85 204 [some (.ref 82), o1] [] ((119, a, b), zx_pk (zK L) 119, σ, τ, zR) = some (some (.int r.1), ((119, a, b), zx_pk (zK L) 119, r.2, τ, zR)) := by
  intro n
  induction n with
  | zero =>
    intro _ _ _ _ H
    cases H
  | succ n ih =>
    intro σ τ o1 r H
    rw [zb_M_read_204] at H
    rw [zs_aload_n (ls := [some (.ref 82), o1]) zd_85_204 rfl]
    rw [zp_getZ (n := 119) (K := zx_pk (zK L) 119) (σ := σ) (c := 12) (k := 9) (q := 82) (v := (σ 82 9)) zd_85_205 rfl rfl rfl (by decide) rfl]
    by_cases c4 : ¬ (σ 82 9) = 0
    · rw [if_pos c4] at H
      rw [zp_if_ne_t (x := (σ 82 9)) (t := 226) zd_85_208 rfl c4]
      exact zt_M_read_226  H
    · rw [if_neg c4] at H
      rw [zp_if_ne_f (x := (σ 82 9)) (t := 226) zd_85_208 rfl c4]
      rw [zs_aload_n (ls := [some (.ref 82), o1]) zd_85_211 rfl]
      rw [zs_iconst (z := 4) zd_85_212 (by decide)]
      obtain ⟨r14, hr14, H⟩ := Option.bind_eq_some_iff.mp H
      rw [zp_callVi (x := r14) (st := [.int 4, .ref 82]) (as := [.ref 82, .int 4]) (rest := []) (e := 0) zd_85_213 rfl (by decide +kernel) (by decide) rfl rfl (Nat.le_of_ble_eq_true rfl) (zx_rcb_ok rfl (show 82 < 119 by decide)) (Nat.le_of_ble_eq_true rfl) rfl (by decide) (zt_M_isWord hr14)]
      by_cases c15 : r14 = 0
      · rw [if_pos c15] at H
        rw [zp_if_eq_t (x := r14) (t := 226) zd_85_216 rfl c15]
        exact zt_M_read_226  H
      · rw [if_neg c15] at H
        rw [zp_if_eq_f (x := r14) (t := 226) zd_85_216 rfl c15]
        rw [zs_aload_n (ls := [some (.ref 82), o1]) zd_85_219 rfl]
        obtain ⟨r16, hr16, H⟩ := Option.bind_eq_some_iff.mp H
        rw [zp_callVv (st := [.ref 82]) (as := [.ref 82]) (rest := []) (e := 6) zd_85_220 rfl (by decide +kernel) (by decide) rfl rfl (Nat.le_of_ble_eq_true rfl) (zx_rcb_ok rfl (show 82 < 119 by decide)) (Nat.le_of_ble_eq_true rfl) rfl (by decide) (zt_M_readThread hr16)]
        rw [zs_goto (t := 204) zd_85_223 rfl]
        exact ih H
set_option maxRecDepth 20000 in
theorem zt_M_read_180 {a b L N : Nat} {k105 : zS → Option (Int32 × zS)} (hk105 : ∀ {σ : zS} {τ : zT} {o1 : Option Value} {r : Int32 × zS}, k105 σ = some r → zx_go 7 85 105 [some (.ref 82), o1] [] ((119, a, b), zx_pk (zK L) 119, σ, τ, zR) = some (some (.int r.1), ((119, a, b), zx_pk (zK L) 119, r.2, τ, zR))) {σ : zS} {τ : zT} {s0 : Int32} {o1 : Option Value} {r : Int32 × zS} (H : zb_M_read_180 k105 N σ s0 = some r) : zx_go 7 85 180 [some (.ref 82), o1] [.int s0, .ref 82] ((119, a, b), zx_pk (zK L) 119, σ, τ, zR) = some (some (.int r.1), ((119, a, b), zx_pk (zK L) 119, r.2, τ, zR)) := by
  unfold zb_M_read_180 at H
  rw [zs_putI (n := 119) (K := zx_pk (zK L) 119) (c := 12) (k := 16) (q := 82) (x := s0) zd_85_180 rfl rfl (by decide +kernel) rfl (by decide)]
  rw [zs_aload_n (ls := [some (.ref 82), o1]) zd_85_183 rfl]
  rw [zs_bipush (z := 59) zd_85_184 (by decide)]
  obtain ⟨r26, hr26, H⟩ := Option.bind_eq_some_iff.mp H
  rw [zp_callVv (st := [.int 59, .ref 82]) (as := [.ref 82, .int 59]) (rest := []) (e := 3) zd_85_186 rfl (by decide +kernel) (by decide) rfl rfl (Nat.le_of_ble_eq_true rfl) (zx_rcb_ok rfl (show 82 < 119 by decide)) (Nat.le_of_ble_eq_true rfl) rfl (by decide) (zt_M_take hr26)]
  rw [zs_goto (t := 105) zd_85_189 rfl]
  exact hk105 H
set_option maxRecDepth 20000 in
theorem zt_M_read_136 {a b L N : Nat} {k105 : zS → Option (Int32 × zS)} (hk105 : ∀ {σ : zS} {τ : zT} {o1 : Option Value} {r : Int32 × zS}, k105 σ = some r → zx_go 7 85 105 [some (.ref 82), o1] [] ((119, a, b), zx_pk (zK L) 119, σ, τ, zR) = some (some (.int r.1), ((119, a, b), zx_pk (zK L) 119, r.2, τ, zR))) {σ : zS} {τ : zT} {o1 : Option Value} {r : Int32 × zS} (H : zb_M_read_136 k105 N σ = some r) : zx_go 7 85 136 [some (.ref 82), o1] [] ((119, a, b), zx_pk (zK L) 119, σ, τ, zR) = some (some (.int r.1), ((119, a, b), zx_pk (zK L) 119, r.2, τ, zR)) := by
  unfold zb_M_read_136 at H
  rw [zs_aload_n (ls := [some (.ref 82), o1]) zd_85_136 rfl]
  rw [zs_iconst (z := 3) zd_85_137 (by decide)]
  obtain ⟨r19, hr19, H⟩ := Option.bind_eq_some_iff.mp H
  rw [zp_callVi (x := r19) (st := [.int 3, .ref 82]) (as := [.ref 82, .int 3]) (rest := []) (e := 0) zd_85_138 rfl (by decide +kernel) (by decide) rfl rfl (Nat.le_of_ble_eq_true rfl) (zx_rcb_ok rfl (show 82 < 119 by decide)) (Nat.le_of_ble_eq_true rfl) rfl (by decide) (zt_M_isWord hr19)]
  by_cases c20 : r19 = 0
  · rw [if_pos c20] at H
    rw [zp_if_eq_t (x := r19) (t := 192) zd_85_141 rfl c20]
    rw [zs_aload_n (ls := [some (.ref 82), o1]) zd_85_192 rfl]
    rw [zs_aload_n (ls := [some (.ref 82), o1]) zd_85_193 rfl]
    rw [zs_iconst (z := 2) zd_85_194 (by decide)]
    obtain ⟨r21, hr21, H⟩ := Option.bind_eq_some_iff.mp H
    rw [zp_callVi (x := r21) (st := [.int 2, .ref 82, .ref 82]) (as := [.ref 82, .int 2]) (rest := [.ref 82]) (e := 0) zd_85_195 rfl (by decide +kernel) (by decide) rfl rfl (Nat.le_of_ble_eq_true rfl) (zx_rcb_ok rfl (show 82 < 119 by decide)) (Nat.le_of_ble_eq_true rfl) rfl (by decide) (zt_M_isWord hr21)]
    obtain ⟨r22, hr22, H⟩ := Option.bind_eq_some_iff.mp H
    rw [zp_callVv (st := [.int r21, .ref 82]) (as := [.ref 82, .int r21]) (rest := []) (e := 4) zd_85_198 rfl (by decide +kernel) (by decide) rfl rfl (Nat.le_of_ble_eq_true rfl) (zx_rcb_ok rfl (show 82 < 119 by decide)) (Nat.le_of_ble_eq_true rfl) rfl (by decide) (zt_M_readField hr22)]
    rw [zs_goto (t := 105) zd_85_201 rfl]
    exact hk105 H
  · rw [if_neg c20] at H
    rw [zp_if_eq_f (x := r19) (t := 192) zd_85_141 rfl c20]
    rw [zs_aload_n (ls := [some (.ref 82), o1]) zd_85_144 rfl]
    obtain ⟨r23, hr23, H⟩ := Option.bind_eq_some_iff.mp H
    rw [zp_callVv (st := [.ref 82]) (as := [.ref 82]) (rest := []) (e := 2) zd_85_145 rfl (by decide +kernel) (by decide) rfl rfl (Nat.le_of_ble_eq_true rfl) (zx_rcb_ok rfl (show 82 < 119 by decide)) (Nat.le_of_ble_eq_true rfl) rfl (by decide) (zt_M_next hr23)]
    rw [zs_aload_n (ls := [some (.ref 82), o1]) zd_85_148 rfl]
    rw [zs_bipush (z := 6) zd_85_149 (by decide)]
    rw [zs_aload_n (ls := [some (.ref 82), o1]) zd_85_151 rfl]
    rw [zp_getI (n := 119) (K := zx_pk (zK L) 119) (σ := r23) (c := 12) (k := 16) (q := 82) (v := (r23 82 16)) zd_85_152 rfl rfl rfl (by decide) rfl]
    rw [zs_iconst (z := 4) zd_85_155 (by decide)]
    obtain ⟨r24, hr24, H⟩ := Option.bind_eq_some_iff.mp H
    rw [zp_callVv (st := [.int 4, .int (r23 82 16), .int 6, .ref 82]) (as := [.ref 82, .int 6, .int (r23 82 16), .int 4]) (rest := []) (e := 3) zd_85_156 rfl (by decide +kernel) (by decide) rfl rfl (Nat.le_of_ble_eq_true rfl) (zx_rcb_ok rfl (show 82 < 119 by decide)) (Nat.le_of_ble_eq_true rfl) rfl (by decide) (zt_M_readTold hr24)]
    rw [zs_aload_n (ls := [some (.ref 82), o1]) zd_85_159 rfl]
    rw [zs_aload_n (ls := [some (.ref 82), o1]) zd_85_160 rfl]
    rw [zp_getZ (n := 119) (K := zx_pk (zK L) 119) (σ := r24) (c := 12) (k := 9) (q := 82) (v := (r24 82 9)) zd_85_161 rfl rfl rfl (by decide) rfl]
    by_cases c25 : (r24 82 9) = 0
    · rw [if_pos c25] at H
      rw [zp_if_eq_t (x := (r24 82 9)) (t := 174) zd_85_164 rfl c25]
      rw [zs_aload_n (ls := [some (.ref 82), o1]) zd_85_174 rfl]
      rw [zp_getI (n := 119) (K := zx_pk (zK L) 119) (σ := r24) (c := 12) (k := 16) (q := 82) (v := (r24 82 16)) zd_85_175 rfl rfl rfl (by decide) rfl]
      rw [zs_iconst (z := 1) zd_85_178 (by decide)]
      rw [zp_iadd (x := (r24 82 16)) (y := 1) (z := ((r24 82 16) + 1)) zd_85_179 rfl]
      exact zt_M_read_180 (hk105 := hk105) H
    · rw [if_neg c25] at H
      rw [zp_if_eq_f (x := (r24 82 9)) (t := 174) zd_85_164 rfl c25]
      rw [zs_aload_n (ls := [some (.ref 82), o1]) zd_85_167 rfl]
      rw [zp_getI (n := 119) (K := zx_pk (zK L) 119) (σ := r24) (c := 12) (k := 16) (q := 82) (v := (r24 82 16)) zd_85_168 rfl rfl rfl (by decide) rfl]
      rw [zs_goto (t := 180) zd_85_171 rfl]
      exact zt_M_read_180 (hk105 := hk105) H
set_option maxRecDepth 20000 in
theorem zt_M_read_105 {a b L N : Nat} : ∀ {n : Nat} {σ : zS} {τ : zT} {o1 : Option Value} {r : Int32 × zS}, zb_M_read_105 N n σ = some r → zx_go 7 85 105 [some (.ref 82), o1] [] ((119, a, b), zx_pk (zK L) 119, σ, τ, zR) = some (some (.int r.1), ((119, a, b), zx_pk (zK L) 119, r.2, τ, zR)) := by
  intro n
  induction n with
  | zero =>
    intro _ _ _ _ H
    cases H
  | succ n ih =>
    intro σ τ o1 r H
    rw [zb_M_read_105] at H
    rw [zs_aload_n (ls := [some (.ref 82), o1]) zd_85_105 rfl]
    rw [zp_getZ (n := 119) (K := zx_pk (zK L) 119) (σ := σ) (c := 12) (k := 9) (q := 82) (v := (σ 82 9)) zd_85_106 rfl rfl rfl (by decide) rfl]
    by_cases c3 : ¬ (σ 82 9) = 0
    · rw [if_pos c3] at H
      rw [zp_if_ne_t (x := (σ 82 9)) (t := 204) zd_85_109 rfl c3]
      exact zt_M_read_204  H
    · rw [if_neg c3] at H
      rw [zp_if_ne_f (x := (σ 82 9)) (t := 204) zd_85_109 rfl c3]
      rw [zs_aload_n (ls := [some (.ref 82), o1]) zd_85_112 rfl]
      rw [zs_iconst (z := 1) zd_85_113 (by decide)]
      obtain ⟨r17, hr17, H⟩ := Option.bind_eq_some_iff.mp H
      rw [zp_callVi (x := r17) (st := [.int 1, .ref 82]) (as := [.ref 82, .int 1]) (rest := []) (e := 0) zd_85_114 rfl (by decide +kernel) (by decide) rfl rfl (Nat.le_of_ble_eq_true rfl) (zx_rcb_ok rfl (show 82 < 119 by decide)) (Nat.le_of_ble_eq_true rfl) rfl (by decide) (zt_M_isWord hr17)]
      by_cases c18 : ¬ r17 = 0
      · rw [if_pos c18] at H
        rw [zp_if_ne_t (x := r17) (t := 136) zd_85_117 rfl c18]
        exact zt_M_read_136 (hk105 := ih) H
      · rw [if_neg c18] at H
        rw [zp_if_ne_f (x := r17) (t := 136) zd_85_117 rfl c18]
        rw [zs_aload_n (ls := [some (.ref 82), o1]) zd_85_120 rfl]
        rw [zs_iconst (z := 2) zd_85_121 (by decide)]
        obtain ⟨r27, hr27, H⟩ := Option.bind_eq_some_iff.mp H
        rw [zp_callVi (x := r27) (st := [.int 2, .ref 82]) (as := [.ref 82, .int 2]) (rest := []) (e := 0) zd_85_122 rfl (by decide +kernel) (by decide) rfl rfl (Nat.le_of_ble_eq_true rfl) (zx_rcb_ok rfl (show 82 < 119 by decide)) (Nat.le_of_ble_eq_true rfl) rfl (by decide) (zt_M_isWord hr27)]
        by_cases c28 : ¬ r27 = 0
        · rw [if_pos c28] at H
          rw [zp_if_ne_t (x := r27) (t := 136) zd_85_125 rfl c28]
          exact zt_M_read_136 (hk105 := ih) H
        · rw [if_neg c28] at H
          rw [zp_if_ne_f (x := r27) (t := 136) zd_85_125 rfl c28]
          rw [zs_aload_n (ls := [some (.ref 82), o1]) zd_85_128 rfl]
          rw [zs_iconst (z := 3) zd_85_129 (by decide)]
          obtain ⟨r29, hr29, H⟩ := Option.bind_eq_some_iff.mp H
          rw [zp_callVi (x := r29) (st := [.int 3, .ref 82]) (as := [.ref 82, .int 3]) (rest := []) (e := 0) zd_85_130 rfl (by decide +kernel) (by decide) rfl rfl (Nat.le_of_ble_eq_true rfl) (zx_rcb_ok rfl (show 82 < 119 by decide)) (Nat.le_of_ble_eq_true rfl) rfl (by decide) (zt_M_isWord hr29)]
          by_cases c30 : r29 = 0
          · rw [if_pos c30] at H
            rw [zp_if_eq_t (x := r29) (t := 204) zd_85_133 rfl c30]
            exact zt_M_read_204  H
          · rw [if_neg c30] at H
            rw [zp_if_eq_f (x := r29) (t := 204) zd_85_133 rfl c30]
            exact zt_M_read_136 (hk105 := ih) H
set_option maxRecDepth 20000 in
theorem zt_M_read_20 {a b L N : Nat} : ∀ {n : Nat} {σ : zS} {τ : zT} {v1 : Int32} {r : Int32 × zS}, zb_M_read_20 N n σ v1 = some r → zx_go 7 85 20 [some (.ref 82), some (.int v1)] [] ((119, a, b), zx_pk (zK L) 119, σ, τ, zR) = some (some (.int r.1), ((119, a, b), zx_pk (zK L) 119, r.2, τ, zR)) := by
  intro n
  induction n with
  | zero =>
    intro _ _ _ _ H
    cases H
  | succ n ih =>
    intro σ τ v1 r H
    rw [zb_M_read_20] at H
    rw [zs_iload_n (ls := [some (.ref 82), some (.int v1)]) zd_85_20 rfl]
    rw [zs_aload_n (ls := [some (.ref 82), some (.int v1)]) zd_85_21 rfl]
    rw [zp_getI (n := 119) (K := zx_pk (zK L) 119) (σ := σ) (c := 12) (k := 4) (q := 82) (v := (σ 82 4)) zd_85_22 rfl rfl rfl (by decide) rfl]
    by_cases c1 : (σ 82 4) ≤ v1
    · rw [if_pos c1] at H
      rw [zp_icmp_ge_t (x := v1) (y := (σ 82 4)) (t := 46) zd_85_25 rfl c1]
      rw [zs_aload_n (ls := [some (.ref 82), some (.int v1)]) zd_85_46 rfl]
      rw [zs_iconst (z := 0) zd_85_47 (by decide)]
      rw [zs_putZ (n := 119) (K := zx_pk (zK L) 119) (c := 12) (k := 9) (q := 82) (x := 0) zd_85_48 rfl rfl (by decide +kernel) rfl (by decide) rfl]
      rw [zs_aload_n (ls := [some (.ref 82), some (.int v1)]) zd_85_51 rfl]
      rw [zs_iconst (z := 0) zd_85_52 (by decide)]
      rw [zs_putI (n := 119) (K := zx_pk (zK L) 119) (c := 12) (k := 10) (q := 82) (x := 0) zd_85_53 rfl rfl (by decide +kernel) rfl (by decide)]
      rw [zs_aload_n (ls := [some (.ref 82), some (.int v1)]) zd_85_56 rfl]
      rw [zs_iconst (z := 0) zd_85_57 (by decide)]
      rw [zs_putI (n := 119) (K := zx_pk (zK L) 119) (c := 12) (k := 15) (q := 82) (x := 0) zd_85_58 rfl rfl (by decide +kernel) rfl (by decide)]
      rw [zs_aload_n (ls := [some (.ref 82), some (.int v1)]) zd_85_61 rfl]
      rw [zs_iconst (z := 0) zd_85_62 (by decide)]
      rw [zs_putI (n := 119) (K := zx_pk (zK L) 119) (c := 12) (k := 16) (q := 82) (x := 0) zd_85_63 rfl rfl (by decide +kernel) rfl (by decide)]
      rw [zs_aload_n (ls := [some (.ref 82), some (.int v1)]) zd_85_66 rfl]
      rw [zs_iconst (z := 0) zd_85_67 (by decide)]
      rw [zs_putI (n := 119) (K := zx_pk (zK L) 119) (c := 12) (k := 17) (q := 82) (x := 0) zd_85_68 rfl rfl (by decide +kernel) rfl (by decide)]
      rw [zs_aload_n (ls := [some (.ref 82), some (.int v1)]) zd_85_71 rfl]
      rw [zs_iconst (z := 0) zd_85_72 (by decide)]
      rw [zs_putI (n := 119) (K := zx_pk (zK L) 119) (c := 12) (k := 25) (q := 82) (x := 0) zd_85_73 rfl rfl (by decide +kernel) rfl (by decide)]
      rw [zs_aload_n (ls := [some (.ref 82), some (.int v1)]) zd_85_76 rfl]
      rw [zs_iconst (z := 0) zd_85_77 (by decide)]
      rw [zs_putI (n := 119) (K := zx_pk (zK L) 119) (c := 12) (k := 19) (q := 82) (x := 0) zd_85_78 rfl rfl (by decide +kernel) rfl (by decide)]
      rw [zs_aload_n (ls := [some (.ref 82), some (.int v1)]) zd_85_81 rfl]
      rw [zs_iconst (z := 0) zd_85_82 (by decide)]
      rw [zs_putI (n := 119) (K := zx_pk (zK L) 119) (c := 12) (k := 5) (q := 82) (x := 0) zd_85_83 rfl rfl (by decide +kernel) rfl (by decide)]
      rw [zs_aload_n (ls := [some (.ref 82), some (.int v1)]) zd_85_86 rfl]
      rw [zs_iconst (z := 0) zd_85_87 (by decide)]
      rw [zs_putI (n := 119) (K := zx_pk (zK L) 119) (c := 12) (k := 6) (q := 82) (x := 0) zd_85_88 rfl rfl (by decide +kernel) rfl (by decide)]
      rw [zs_aload_n (ls := [some (.ref 82), some (.int v1)]) zd_85_91 rfl]
      rw [zs_iconst (z := 0) zd_85_92 (by decide)]
      rw [zs_putZ (n := 119) (K := zx_pk (zK L) 119) (c := 12) (k := 53) (q := 82) (x := 0) zd_85_93 rfl rfl (by decide +kernel) rfl (by decide) rfl]
      rw [zs_aload_n (ls := [some (.ref 82), some (.int v1)]) zd_85_96 rfl]
      rw [zs_iconst (z := (-1)) zd_85_97 (by decide)]
      rw [zs_putI (n := 119) (K := zx_pk (zK L) 119) (c := 12) (k := 62) (q := 82) (x := (-1)) zd_85_98 rfl rfl (by decide +kernel) rfl (by decide)]
      rw [zs_aload_n (ls := [some (.ref 82), some (.int v1)]) zd_85_101 rfl]
      obtain ⟨r2, hr2, H⟩ := Option.bind_eq_some_iff.mp H
      rw [zp_callVv (st := [.ref 82]) (as := [.ref 82]) (rest := []) (e := 2) zd_85_102 rfl (by decide +kernel) (by decide) rfl rfl (Nat.le_of_ble_eq_true rfl) (zx_rcb_ok rfl (show 82 < 119 by decide)) (Nat.le_of_ble_eq_true rfl) rfl (by decide) (zt_M_next hr2)]
      exact zt_M_read_105  H
    · rw [if_neg c1] at H
      rw [zp_icmp_ge_f (x := v1) (y := (σ 82 4)) (t := 46) zd_85_25 rfl c1]
      rw [zs_aload_n (ls := [some (.ref 82), some (.int v1)]) zd_85_28 rfl]
      rw [zs_getR (n := 119) (K := zx_pk (zK L) 119) (ρ := zR) (c := 12) (k := 3) (q := 82) (p := 84) zd_85_29 rfl rfl rfl (by decide) rfl]
      rw [zs_iload_n (ls := [some (.ref 82), some (.int v1)]) zd_85_32 rfl]
      rw [zs_aload_n (ls := [some (.ref 82), some (.int v1)]) zd_85_33 rfl]
      rw [zs_getR (n := 119) (K := zx_pk (zK L) 119) (ρ := zR) (c := 12) (k := 1) (q := 82) (p := 83) zd_85_34 rfl rfl rfl (by decide) rfl]
      rw [zs_iload_n (ls := [some (.ref 82), some (.int v1)]) zd_85_37 rfl]
      by_cases c31 : 0 ≤ v1 ∧ v1 < 1500
      · rw [if_pos c31] at H
        rw [zp_baload (n := 119) (K := zx_pk (zK L) 119) (σ := σ) (q := 83) (m := 1500) (i := v1) (k := v1.toNatClampNeg) (v := (σ 83 v1.toNatClampNeg)) zd_85_38 rfl (by decide) (zJ_in c31 rfl) rfl rfl]
        by_cases c32 : 0 ≤ v1 ∧ v1 < 1500
        · rw [if_pos c32] at H
          rw [zp_bastore (n := 119) (K := zx_pk (zK L) 119) (q := 84) (m := 1500) (i := v1) (k := v1.toNatClampNeg) (x := (σ 83 v1.toNatClampNeg)) (z := (zJ_byte (σ 83 v1.toNatClampNeg))) zd_85_39 rfl ⟨by decide, by decide⟩ (zJ_in c32 rfl) rfl rfl]
          rw [zs_iinc (ls := [some (.ref 82), some (.int v1)]) (x := v1) (z := (v1 + 1)) (ls' := [some (.ref 82), some (.int (v1 + 1))]) zd_85_40 rfl rfl rfl]
          rw [zs_goto (t := 20) zd_85_43 rfl]
          exact ih H
        · rw [if_neg c32] at H
          cases H
      · rw [if_neg c31] at H
        cases H
set_option maxRecDepth 20000 in
theorem zt_M_read {a b L N : Nat} {σ : zS} {τ : zT} {r : Int32 × zS} (H : zf_M_read N σ = some r) : zx_go 7 85 0 [some (.ref 82), none] [] ((119, a, b), zx_pk (zK L) 119, σ, τ, zR) = some (some (.int r.1), ((119, a, b), zx_pk (zK L) 119, r.2, τ, zR)) := by
  unfold zf_M_read at H
  rw [zs_aload_n (ls := [some (.ref 82), none]) zd_85_0 rfl]
  rw [zs_iconst (z := 0) zd_85_1 (by decide)]
  rw [zs_putI (n := 119) (K := zx_pk (zK L) 119) (c := 12) (k := 0) (q := 82) (x := 0) zd_85_2 rfl rfl (by decide +kernel) rfl (by decide)]
  rw [zs_aload_n (ls := [some (.ref 82), none]) zd_85_5 rfl]
  rw [zs_aload_n (ls := [some (.ref 82), none]) zd_85_6 rfl]
  rw [zp_getI (n := 119) (K := zx_pk (zK L) 119) (σ := (zx_up σ 82 0 0)) (c := 12) (k := 2) (q := 82) (v := (σ 82 2)) zd_85_7 rfl rfl rfl (by decide) (show ((zx_up σ 82 0 0) : zS) 82 2 = (σ 82 2) from ((zx_up_nj (by decide)).trans rfl))]
  rw [zs_putI (n := 119) (K := zx_pk (zK L) 119) (c := 12) (k := 4) (q := 82) (x := (σ 82 2)) zd_85_10 rfl rfl (by decide +kernel) rfl (by decide)]
  rw [zs_aload_n (ls := [some (.ref 82), none]) zd_85_13 rfl]
  rw [zs_iconst (z := 0) zd_85_14 (by decide)]
  rw [zs_putI (n := 119) (K := zx_pk (zK L) 119) (c := 12) (k := 2) (q := 82) (x := 0) zd_85_15 rfl rfl (by decide +kernel) rfl (by decide)]
  rw [zs_iconst (z := 0) zd_85_18 (by decide)]
  rw [zs_istore_n (x := 0) (ls' := [some (.ref 82), some (.int 0)]) zd_85_19 (Nat.le_of_ble_eq_true rfl) rfl]
  exact zt_M_read_20  H
set_option maxRecDepth 20000 in
theorem zt_X_fault {a b L : Nat} {σ : zS} {τ : zT} {r : Int32} (H : zf_X_fault σ = some r) : zx_go 0 121 0 [some (.ref 2)] [] ((119, a, b), zx_pk (zK L) 119, σ, τ, zR) = some (some (.int r), ((119, a, b), zx_pk (zK L) 119, σ, τ, zR)) := by
  unfold zf_X_fault at H
  rw [zs_aload_n (ls := [some (.ref 2)]) zd_121_0 rfl]
  rw [zp_getI (n := 119) (K := zx_pk (zK L) 119) (σ := σ) (c := 11) (k := 12) (q := 2) (v := (σ 2 12)) zd_121_1 rfl rfl rfl (by decide) rfl]
  have H := Option.some.inj H
  subst H
  exact zs_ireturn zd_121_4 rfl
set_option maxRecDepth 20000 in
theorem zt_M_fault {a b L : Nat} {σ : zS} {τ : zT} {r : Int32 × zS} (H : zf_M_fault σ = some r) : zx_go 0 122 0 [some (.ref 82)] [] ((119, a, b), zx_pk (zK L) 119, σ, τ, zR) = some (some (.int r.1), ((119, a, b), zx_pk (zK L) 119, r.2, τ, zR)) := by
  unfold zf_M_fault at H
  rw [zs_aload_n (ls := [some (.ref 82)]) zd_122_0 rfl]
  rw [zs_iconst (z := 0) zd_122_1 (by decide)]
  rw [zs_putI (n := 119) (K := zx_pk (zK L) 119) (c := 12) (k := 0) (q := 82) (x := 0) zd_122_2 rfl rfl (by decide +kernel) rfl (by decide)]
  rw [zs_aload_n (ls := [some (.ref 82)]) zd_122_5 rfl]
  rw [zp_getI (n := 119) (K := zx_pk (zK L) 119) (σ := (zx_up σ 82 0 0)) (c := 12) (k := 12) (q := 82) (v := (σ 82 12)) zd_122_6 rfl rfl rfl (by decide) (show ((zx_up σ 82 0 0) : zS) 82 12 = (σ 82 12) from ((zx_up_nj (by decide)).trans rfl))]
  have H := Option.some.inj H
  subst H
  exact zs_ireturn zd_122_9 rfl
set_option maxRecDepth 20000 in
theorem zt_X_count {a b L : Nat} {σ : zS} {τ : zT} {x1 : Int32} {r : Int32} (H : zf_X_count σ x1 = some r) : zx_go 0 123 0 [some (.ref 2), some (.int x1)] [] ((119, a, b), zx_pk (zK L) 119, σ, τ, zR) = some (some (.int r), ((119, a, b), zx_pk (zK L) 119, σ, τ, zR)) := by
  unfold zf_X_count at H
  rw [zs_aload_n (ls := [some (.ref 2), some (.int x1)]) zd_123_0 rfl]
  rw [zp_getZ (n := 119) (K := zx_pk (zK L) 119) (σ := σ) (c := 11) (k := 13) (q := 2) (v := (σ 2 13)) zd_123_1 rfl rfl rfl (by decide) rfl]
  by_cases c1 : ¬ (σ 2 13) = 0
  · rw [if_pos c1] at H
    rw [zp_if_ne_t (x := (σ 2 13)) (t := 10) zd_123_4 rfl c1]
    rw [zs_iload_n (ls := [some (.ref 2), some (.int x1)]) zd_123_10 rfl]
    by_cases c2 : x1 = 0
    · rw [if_pos c2] at H
      rw [zs_table (x := x1) (off := 33) (t := 44) zd_123_11 (by rw [c2]; decide) rfl]
      rw [zs_aload_n (ls := [some (.ref 2), some (.int x1)]) zd_123_44 rfl]
      rw [zs_getR (n := 119) (K := zx_pk (zK L) 119) (ρ := zR) (c := 11) (k := 1) (q := 2) (p := 4) zd_123_45 rfl rfl rfl (by decide) rfl]
      rw [zp_getI (n := 119) (K := zx_pk (zK L) 119) (σ := σ) (c := 6) (k := 0) (q := 4) (v := (σ 4 0)) zd_123_48 rfl rfl rfl (by decide) rfl]
      have H := Option.some.inj H
      subst H
      exact zs_ireturn zd_123_51 rfl
    · rw [if_neg c2] at H
      by_cases c3 : x1 = 1
      · rw [if_pos c3] at H
        rw [zs_table (x := x1) (off := 41) (t := 52) zd_123_11 (by rw [c3]; decide) rfl]
        rw [zs_aload_n (ls := [some (.ref 2), some (.int x1)]) zd_123_52 rfl]
        rw [zs_getR (n := 119) (K := zx_pk (zK L) 119) (ρ := zR) (c := 11) (k := 1) (q := 2) (p := 4) zd_123_53 rfl rfl rfl (by decide) rfl]
        rw [zp_getI (n := 119) (K := zx_pk (zK L) 119) (σ := σ) (c := 6) (k := 1) (q := 4) (v := (σ 4 1)) zd_123_56 rfl rfl rfl (by decide) rfl]
        have H := Option.some.inj H
        subst H
        exact zs_ireturn zd_123_59 rfl
      · rw [if_neg c3] at H
        by_cases c4 : x1 = 2
        · rw [if_pos c4] at H
          rw [zs_table (x := x1) (off := 49) (t := 60) zd_123_11 (by rw [c4]; decide) rfl]
          rw [zs_aload_n (ls := [some (.ref 2), some (.int x1)]) zd_123_60 rfl]
          rw [zs_getR (n := 119) (K := zx_pk (zK L) 119) (ρ := zR) (c := 11) (k := 1) (q := 2) (p := 4) zd_123_61 rfl rfl rfl (by decide) rfl]
          rw [zp_getI (n := 119) (K := zx_pk (zK L) 119) (σ := σ) (c := 6) (k := 2) (q := 4) (v := (σ 4 2)) zd_123_64 rfl rfl rfl (by decide) rfl]
          have H := Option.some.inj H
          subst H
          exact zs_ireturn zd_123_67 rfl
        · rw [if_neg c4] at H
          by_cases c5 : x1 = 3
          · rw [if_pos c5] at H
            rw [zs_table (x := x1) (off := 57) (t := 68) zd_123_11 (by rw [c5]; decide) rfl]
            rw [zs_aload_n (ls := [some (.ref 2), some (.int x1)]) zd_123_68 rfl]
            rw [zs_getR (n := 119) (K := zx_pk (zK L) 119) (ρ := zR) (c := 11) (k := 1) (q := 2) (p := 4) zd_123_69 rfl rfl rfl (by decide) rfl]
            rw [zp_getI (n := 119) (K := zx_pk (zK L) 119) (σ := σ) (c := 6) (k := 3) (q := 4) (v := (σ 4 3)) zd_123_72 rfl rfl rfl (by decide) rfl]
            have H := Option.some.inj H
            subst H
            exact zs_ireturn zd_123_75 rfl
          · rw [if_neg c5] at H
            by_cases c6 : x1 = 4
            · rw [if_pos c6] at H
              rw [zs_table (x := x1) (off := 65) (t := 76) zd_123_11 (by rw [c6]; decide) rfl]
              rw [zs_aload_n (ls := [some (.ref 2), some (.int x1)]) zd_123_76 rfl]
              rw [zs_getR (n := 119) (K := zx_pk (zK L) 119) (ρ := zR) (c := 11) (k := 1) (q := 2) (p := 4) zd_123_77 rfl rfl rfl (by decide) rfl]
              rw [zp_getI (n := 119) (K := zx_pk (zK L) 119) (σ := σ) (c := 6) (k := 4) (q := 4) (v := (σ 4 4)) zd_123_80 rfl rfl rfl (by decide) rfl]
              have H := Option.some.inj H
              subst H
              exact zs_ireturn zd_123_83 rfl
            · rw [if_neg c6] at H
              rw [zs_table (x := x1) (off := 73) (t := 84) zd_123_11 (if_pos (by have e : ∀ z : Int32, ¬ x1 = z → ¬ (x1 : Int32).toInt = z.toInt := fun z h q => h (Int32.toInt_inj.mp q); have q0 := e 0 c2; have q1 := e 1 c3; have q2 := e 2 c4; have q3 := e 3 c5; have q4 := e 4 c6; simp only [show (0 : Int32).toInt = 0 from rfl, show (1 : Int32).toInt = 1 from rfl, show (2 : Int32).toInt = 2 from rfl, show (3 : Int32).toInt = 3 from rfl, show (4 : Int32).toInt = 4 from rfl] at q0 q1 q2 q3 q4; omega)) rfl]
              rw [zs_bipush (z := (-102)) zd_123_84 (by decide)]
              have H := Option.some.inj H
              subst H
              exact zs_ireturn zd_123_86 (by decide +kernel)
  · rw [if_neg c1] at H
    rw [zp_if_ne_f (x := (σ 2 13)) (t := 10) zd_123_4 rfl c1]
    rw [zs_bipush (z := (-101)) zd_123_7 (by decide)]
    have H := Option.some.inj H
    subst H
    exact zs_ireturn zd_123_9 (by decide +kernel)
set_option maxRecDepth 20000 in
theorem zt_M_count {a b L N : Nat} {σ : zS} {τ : zT} {x1 : Int32} {r : Int32 × zS} (H : zf_M_count N σ x1 = some r) : zx_go 1 124 0 [some (.ref 82), some (.int x1)] [] ((119, a, b), zx_pk (zK L) 119, σ, τ, zR) = some (some (.int r.1), ((119, a, b), zx_pk (zK L) 119, r.2, τ, zR)) := by
  unfold zf_M_count at H
  rw [zs_aload_n (ls := [some (.ref 82), some (.int x1)]) zd_124_0 rfl]
  rw [zs_iconst (z := 0) zd_124_1 (by decide)]
  rw [zs_putI (n := 119) (K := zx_pk (zK L) 119) (c := 12) (k := 0) (q := 82) (x := 0) zd_124_2 rfl rfl (by decide +kernel) rfl (by decide)]
  rw [zs_aload_n (ls := [some (.ref 82), some (.int x1)]) zd_124_5 rfl]
  rw [zp_getZ (n := 119) (K := zx_pk (zK L) 119) (σ := (zx_up σ 82 0 0)) (c := 12) (k := 21) (q := 82) (v := (σ 82 21)) zd_124_6 rfl rfl rfl (by decide) (show ((zx_up σ 82 0 0) : zS) 82 21 = (σ 82 21) from ((zx_up_nj (by decide)).trans rfl))]
  by_cases c1 : ¬ (σ 82 21) = 0
  · rw [if_pos c1] at H
    rw [zp_if_ne_t (x := (σ 82 21)) (t := 15) zd_124_9 rfl c1]
    rw [zs_iload_n (ls := [some (.ref 82), some (.int x1)]) zd_124_15 rfl]
    by_cases c2 : x1 = 0
    · rw [if_pos c2] at H
      rw [zs_table (x := x1) (off := 36) (t := 52) zd_124_16 (by rw [c2]; decide) rfl]
      rw [zs_aload_n (ls := [some (.ref 82), some (.int x1)]) zd_124_52 rfl]
      rw [zp_getI (n := 119) (K := zx_pk (zK L) 119) (σ := (zx_up σ 82 0 0)) (c := 12) (k := 15) (q := 82) (v := (σ 82 15)) zd_124_53 rfl rfl rfl (by decide) (show ((zx_up σ 82 0 0) : zS) 82 15 = (σ 82 15) from ((zx_up_nj (by decide)).trans rfl))]
      have H := Option.some.inj H
      subst H
      exact zs_ireturn zd_124_56 rfl
    · rw [if_neg c2] at H
      by_cases c3 : x1 = 1
      · rw [if_pos c3] at H
        rw [zs_table (x := x1) (off := 41) (t := 57) zd_124_16 (by rw [c3]; decide) rfl]
        rw [zs_aload_n (ls := [some (.ref 82), some (.int x1)]) zd_124_57 rfl]
        rw [zp_getI (n := 119) (K := zx_pk (zK L) 119) (σ := (zx_up σ 82 0 0)) (c := 12) (k := 16) (q := 82) (v := (σ 82 16)) zd_124_58 rfl rfl rfl (by decide) (show ((zx_up σ 82 0 0) : zS) 82 16 = (σ 82 16) from ((zx_up_nj (by decide)).trans rfl))]
        have H := Option.some.inj H
        subst H
        exact zs_ireturn zd_124_61 rfl
      · rw [if_neg c3] at H
        by_cases c4 : x1 = 2
        · rw [if_pos c4] at H
          rw [zs_table (x := x1) (off := 46) (t := 62) zd_124_16 (by rw [c4]; decide) rfl]
          rw [zs_aload_n (ls := [some (.ref 82), some (.int x1)]) zd_124_62 rfl]
          rw [zp_getI (n := 119) (K := zx_pk (zK L) 119) (σ := (zx_up σ 82 0 0)) (c := 12) (k := 17) (q := 82) (v := (σ 82 17)) zd_124_63 rfl rfl rfl (by decide) (show ((zx_up σ 82 0 0) : zS) 82 17 = (σ 82 17) from ((zx_up_nj (by decide)).trans rfl))]
          have H := Option.some.inj H
          subst H
          exact zs_ireturn zd_124_66 rfl
        · rw [if_neg c4] at H
          by_cases c5 : x1 = 3
          · rw [if_pos c5] at H
            rw [zs_table (x := x1) (off := 51) (t := 67) zd_124_16 (by rw [c5]; decide) rfl]
            rw [zs_aload_n (ls := [some (.ref 82), some (.int x1)]) zd_124_67 rfl]
            rw [zp_getI (n := 119) (K := zx_pk (zK L) 119) (σ := (zx_up σ 82 0 0)) (c := 12) (k := 25) (q := 82) (v := (σ 82 25)) zd_124_68 rfl rfl rfl (by decide) (show ((zx_up σ 82 0 0) : zS) 82 25 = (σ 82 25) from ((zx_up_nj (by decide)).trans rfl))]
            have H := Option.some.inj H
            subst H
            exact zs_ireturn zd_124_71 rfl
          · rw [if_neg c5] at H
            by_cases c6 : x1 = 4
            · rw [if_pos c6] at H
              rw [zs_table (x := x1) (off := 56) (t := 72) zd_124_16 (by rw [c6]; decide) rfl]
              rw [zs_aload_n (ls := [some (.ref 82), some (.int x1)]) zd_124_72 rfl]
              obtain ⟨r7, hr7, H⟩ := Option.bind_eq_some_iff.mp H
              rw [zp_callVi (x := r7) (st := [.ref 82]) (as := [.ref 82]) (rest := []) (e := 0) zd_124_73 rfl (by decide +kernel) (by decide) rfl rfl (Nat.le_of_ble_eq_true rfl) (zx_rcb_ok rfl (show 82 < 119 by decide)) (Nat.le_of_ble_eq_true rfl) rfl (by decide) (zt_M_allSteps hr7)]
              have H := Option.some.inj H
              subst H
              exact zs_ireturn zd_124_76 rfl
            · rw [if_neg c6] at H
              rw [zs_table (x := x1) (off := 61) (t := 77) zd_124_16 (if_pos (by have e : ∀ z : Int32, ¬ x1 = z → ¬ (x1 : Int32).toInt = z.toInt := fun z h q => h (Int32.toInt_inj.mp q); have q0 := e 0 c2; have q1 := e 1 c3; have q2 := e 2 c4; have q3 := e 3 c5; have q4 := e 4 c6; simp only [show (0 : Int32).toInt = 0 from rfl, show (1 : Int32).toInt = 1 from rfl, show (2 : Int32).toInt = 2 from rfl, show (3 : Int32).toInt = 3 from rfl, show (4 : Int32).toInt = 4 from rfl] at q0 q1 q2 q3 q4; omega)) rfl]
              rw [zs_bipush (z := (-102)) zd_124_77 (by decide)]
              have H := Option.some.inj H
              subst H
              exact zs_ireturn zd_124_79 (by decide +kernel)
  · rw [if_neg c1] at H
    rw [zp_if_ne_f (x := (σ 82 21)) (t := 15) zd_124_9 rfl c1]
    rw [zs_bipush (z := (-101)) zd_124_12 (by decide)]
    have H := Option.some.inj H
    subst H
    exact zs_ireturn zd_124_14 (by decide +kernel)
set_option maxRecDepth 20000 in
theorem zt_X_step {a b L : Nat} {σ : zS} {τ : zT} {x1 : Int32} {x2 : Int32} {x3 : Int32} {r : Int32} (H : zf_X_step σ x1 x2 x3 = some r) : zx_go 1 125 0 [some (.ref 2), some (.int x1), some (.int x2), some (.int x3), none] [] ((119, a, b), zx_pk (zK L) 119, σ, τ, zR) = some (some (.int r), ((119, a, b), zx_pk (zK L) 119, σ, τ, zR)) := by
  unfold zf_X_step at H
  rw [zs_aload_n (ls := [some (.ref 2), some (.int x1), some (.int x2), some (.int x3), none]) zd_125_0 rfl]
  rw [zp_getZ (n := 119) (K := zx_pk (zK L) 119) (σ := σ) (c := 11) (k := 13) (q := 2) (v := (σ 2 13)) zd_125_1 rfl rfl rfl (by decide) rfl]
  by_cases c1 : ¬ (σ 2 13) = 0
  · rw [if_pos c1] at H
    rw [zp_if_ne_t (x := (σ 2 13)) (t := 10) zd_125_4 rfl c1]
    rw [zs_aload_n (ls := [some (.ref 2), some (.int x1), some (.int x2), some (.int x3), none]) zd_125_10 rfl]
    rw [zs_getR (n := 119) (K := zx_pk (zK L) 119) (ρ := zR) (c := 11) (k := 1) (q := 2) (p := 4) zd_125_11 rfl rfl rfl (by decide) rfl]
    rw [zs_iload_n (ls := [some (.ref 2), some (.int x1), some (.int x2), some (.int x3), none]) zd_125_14 rfl]
    rw [zs_iload_n (ls := [some (.ref 2), some (.int x1), some (.int x2), some (.int x3), none]) zd_125_15 rfl]
    obtain ⟨r2, hr2, H⟩ := Option.bind_eq_some_iff.mp H
    rw [zp_callVi (x := r2) (st := [.int x2, .int x1, .ref 4]) (as := [.ref 4, .int x1, .int x2]) (rest := []) (e := 0) zd_125_16 rfl (by decide +kernel) (by decide) rfl rfl (Nat.le_of_ble_eq_true rfl) (zx_rcb_ok rfl (show 4 < 119 by decide)) (Nat.le_of_ble_eq_true rfl) rfl (by decide) (zt_Program_slotOf hr2)]
    rw [zs_istore (x := r2) (ls' := [some (.ref 2), some (.int x1), some (.int x2), some (.int x3), some (.int r2)]) zd_125_19 (Nat.le_of_ble_eq_true rfl) rfl]
    rw [zs_iload (ls := [some (.ref 2), some (.int x1), some (.int x2), some (.int x3), some (.int r2)]) zd_125_21 rfl]
    rw [zs_bipush (z := 96) zd_125_23 (by decide)]
    by_cases c3 : ¬ r2 = 96
    · rw [if_pos c3] at H
      rw [zp_icmp_ne_t (x := r2) (y := 96) (t := 31) zd_125_25 rfl c3]
      rw [zs_iload_n (ls := [some (.ref 2), some (.int x1), some (.int x2), some (.int x3), some (.int r2)]) zd_125_31 rfl]
      by_cases c4 : x3 = 0
      · rw [if_pos c4] at H
        rw [zs_table (x := x3) (off := 40) (t := 72) zd_125_32 (by rw [c4]; decide) rfl]
        rw [zs_aload_n (ls := [some (.ref 2), some (.int x1), some (.int x2), some (.int x3), some (.int r2)]) zd_125_72 rfl]
        rw [zs_getR (n := 119) (K := zx_pk (zK L) 119) (ρ := zR) (c := 11) (k := 1) (q := 2) (p := 4) zd_125_73 rfl rfl rfl (by decide) rfl]
        rw [zs_getR (n := 119) (K := zx_pk (zK L) 119) (ρ := zR) (c := 6) (k := 9) (q := 4) (p := 7) zd_125_76 rfl rfl rfl (by decide) rfl]
        rw [zs_iload (ls := [some (.ref 2), some (.int x1), some (.int x2), some (.int x3), some (.int r2)]) zd_125_79 rfl]
        by_cases c15 : 0 ≤ r2 ∧ r2 < 97
        · rw [if_pos c15] at H
          rw [zp_iaload (n := 119) (K := zx_pk (zK L) 119) (σ := σ) (q := 7) (m := 97) (i := r2) (k := r2.toNatClampNeg) (v := (σ 7 r2.toNatClampNeg)) zd_125_81 rfl (by decide) (zJ_in c15 rfl) rfl rfl]
          have H := Option.some.inj H
          subst H
          exact zs_ireturn zd_125_82 rfl
        · rw [if_neg c15] at H
          cases H
      · rw [if_neg c4] at H
        by_cases c5 : x3 = 1
        · rw [if_pos c5] at H
          rw [zs_table (x := x3) (off := 51) (t := 83) zd_125_32 (by rw [c5]; decide) rfl]
          rw [zs_aload_n (ls := [some (.ref 2), some (.int x1), some (.int x2), some (.int x3), some (.int r2)]) zd_125_83 rfl]
          rw [zs_getR (n := 119) (K := zx_pk (zK L) 119) (ρ := zR) (c := 11) (k := 1) (q := 2) (p := 4) zd_125_84 rfl rfl rfl (by decide) rfl]
          rw [zs_getR (n := 119) (K := zx_pk (zK L) 119) (ρ := zR) (c := 6) (k := 10) (q := 4) (p := 8) zd_125_87 rfl rfl rfl (by decide) rfl]
          rw [zs_iload (ls := [some (.ref 2), some (.int x1), some (.int x2), some (.int x3), some (.int r2)]) zd_125_90 rfl]
          by_cases c14 : 0 ≤ r2 ∧ r2 < 97
          · rw [if_pos c14] at H
            rw [zp_iaload (n := 119) (K := zx_pk (zK L) 119) (σ := σ) (q := 8) (m := 97) (i := r2) (k := r2.toNatClampNeg) (v := (σ 8 r2.toNatClampNeg)) zd_125_92 rfl (by decide) (zJ_in c14 rfl) rfl rfl]
            have H := Option.some.inj H
            subst H
            exact zs_ireturn zd_125_93 rfl
          · rw [if_neg c14] at H
            cases H
        · rw [if_neg c5] at H
          by_cases c6 : x3 = 2
          · rw [if_pos c6] at H
            rw [zs_table (x := x3) (off := 62) (t := 94) zd_125_32 (by rw [c6]; decide) rfl]
            rw [zs_aload_n (ls := [some (.ref 2), some (.int x1), some (.int x2), some (.int x3), some (.int r2)]) zd_125_94 rfl]
            rw [zs_getR (n := 119) (K := zx_pk (zK L) 119) (ρ := zR) (c := 11) (k := 1) (q := 2) (p := 4) zd_125_95 rfl rfl rfl (by decide) rfl]
            rw [zs_getR (n := 119) (K := zx_pk (zK L) 119) (ρ := zR) (c := 6) (k := 11) (q := 4) (p := 9) zd_125_98 rfl rfl rfl (by decide) rfl]
            rw [zs_iload (ls := [some (.ref 2), some (.int x1), some (.int x2), some (.int x3), some (.int r2)]) zd_125_101 rfl]
            by_cases c13 : 0 ≤ r2 ∧ r2 < 97
            · rw [if_pos c13] at H
              rw [zp_iaload (n := 119) (K := zx_pk (zK L) 119) (σ := σ) (q := 9) (m := 97) (i := r2) (k := r2.toNatClampNeg) (v := (σ 9 r2.toNatClampNeg)) zd_125_103 rfl (by decide) (zJ_in c13 rfl) rfl rfl]
              have H := Option.some.inj H
              subst H
              exact zs_ireturn zd_125_104 rfl
            · rw [if_neg c13] at H
              cases H
          · rw [if_neg c6] at H
            by_cases c7 : x3 = 3
            · rw [if_pos c7] at H
              rw [zs_table (x := x3) (off := 73) (t := 105) zd_125_32 (by rw [c7]; decide) rfl]
              rw [zs_aload_n (ls := [some (.ref 2), some (.int x1), some (.int x2), some (.int x3), some (.int r2)]) zd_125_105 rfl]
              rw [zs_getR (n := 119) (K := zx_pk (zK L) 119) (ρ := zR) (c := 11) (k := 1) (q := 2) (p := 4) zd_125_106 rfl rfl rfl (by decide) rfl]
              rw [zs_getR (n := 119) (K := zx_pk (zK L) 119) (ρ := zR) (c := 6) (k := 12) (q := 4) (p := 10) zd_125_109 rfl rfl rfl (by decide) rfl]
              rw [zs_iload (ls := [some (.ref 2), some (.int x1), some (.int x2), some (.int x3), some (.int r2)]) zd_125_112 rfl]
              by_cases c12 : 0 ≤ r2 ∧ r2 < 97
              · rw [if_pos c12] at H
                rw [zp_iaload (n := 119) (K := zx_pk (zK L) 119) (σ := σ) (q := 10) (m := 97) (i := r2) (k := r2.toNatClampNeg) (v := (σ 10 r2.toNatClampNeg)) zd_125_114 rfl (by decide) (zJ_in c12 rfl) rfl rfl]
                have H := Option.some.inj H
                subst H
                exact zs_ireturn zd_125_115 rfl
              · rw [if_neg c12] at H
                cases H
            · rw [if_neg c7] at H
              by_cases c8 : x3 = 4
              · rw [if_pos c8] at H
                rw [zs_table (x := x3) (off := 84) (t := 116) zd_125_32 (by rw [c8]; decide) rfl]
                rw [zs_aload_n (ls := [some (.ref 2), some (.int x1), some (.int x2), some (.int x3), some (.int r2)]) zd_125_116 rfl]
                rw [zs_getR (n := 119) (K := zx_pk (zK L) 119) (ρ := zR) (c := 11) (k := 1) (q := 2) (p := 4) zd_125_117 rfl rfl rfl (by decide) rfl]
                rw [zs_getR (n := 119) (K := zx_pk (zK L) 119) (ρ := zR) (c := 6) (k := 13) (q := 4) (p := 11) zd_125_120 rfl rfl rfl (by decide) rfl]
                rw [zs_iload (ls := [some (.ref 2), some (.int x1), some (.int x2), some (.int x3), some (.int r2)]) zd_125_123 rfl]
                by_cases c11 : 0 ≤ r2 ∧ r2 < 97
                · rw [if_pos c11] at H
                  rw [zp_iaload (n := 119) (K := zx_pk (zK L) 119) (σ := σ) (q := 11) (m := 97) (i := r2) (k := r2.toNatClampNeg) (v := (σ 11 r2.toNatClampNeg)) zd_125_125 rfl (by decide) (zJ_in c11 rfl) rfl rfl]
                  have H := Option.some.inj H
                  subst H
                  exact zs_ireturn zd_125_126 rfl
                · rw [if_neg c11] at H
                  cases H
              · rw [if_neg c8] at H
                by_cases c9 : x3 = 5
                · rw [if_pos c9] at H
                  rw [zs_table (x := x3) (off := 95) (t := 127) zd_125_32 (by rw [c9]; decide) rfl]
                  rw [zs_aload_n (ls := [some (.ref 2), some (.int x1), some (.int x2), some (.int x3), some (.int r2)]) zd_125_127 rfl]
                  rw [zs_getR (n := 119) (K := zx_pk (zK L) 119) (ρ := zR) (c := 11) (k := 1) (q := 2) (p := 4) zd_125_128 rfl rfl rfl (by decide) rfl]
                  rw [zs_getR (n := 119) (K := zx_pk (zK L) 119) (ρ := zR) (c := 6) (k := 14) (q := 4) (p := 12) zd_125_131 rfl rfl rfl (by decide) rfl]
                  rw [zs_iload (ls := [some (.ref 2), some (.int x1), some (.int x2), some (.int x3), some (.int r2)]) zd_125_134 rfl]
                  by_cases c10 : 0 ≤ r2 ∧ r2 < 97
                  · rw [if_pos c10] at H
                    rw [zp_iaload (n := 119) (K := zx_pk (zK L) 119) (σ := σ) (q := 12) (m := 97) (i := r2) (k := r2.toNatClampNeg) (v := (σ 12 r2.toNatClampNeg)) zd_125_136 rfl (by decide) (zJ_in c10 rfl) rfl rfl]
                    have H := Option.some.inj H
                    subst H
                    exact zs_ireturn zd_125_137 rfl
                  · rw [if_neg c10] at H
                    cases H
                · rw [if_neg c9] at H
                  rw [zs_table (x := x3) (off := 106) (t := 138) zd_125_32 (if_pos (by have e : ∀ z : Int32, ¬ x3 = z → ¬ (x3 : Int32).toInt = z.toInt := fun z h q => h (Int32.toInt_inj.mp q); have q0 := e 0 c4; have q1 := e 1 c5; have q2 := e 2 c6; have q3 := e 3 c7; have q4 := e 4 c8; have q5 := e 5 c9; simp only [show (0 : Int32).toInt = 0 from rfl, show (1 : Int32).toInt = 1 from rfl, show (2 : Int32).toInt = 2 from rfl, show (3 : Int32).toInt = 3 from rfl, show (4 : Int32).toInt = 4 from rfl, show (5 : Int32).toInt = 5 from rfl] at q0 q1 q2 q3 q4 q5; omega)) rfl]
                  rw [zs_bipush (z := (-102)) zd_125_138 (by decide)]
                  have H := Option.some.inj H
                  subst H
                  exact zs_ireturn zd_125_140 (by decide +kernel)
    · rw [if_neg c3] at H
      rw [zp_icmp_ne_f (x := r2) (y := 96) (t := 31) zd_125_25 rfl c3]
      rw [zs_bipush (z := (-102)) zd_125_28 (by decide)]
      have H := Option.some.inj H
      subst H
      exact zs_ireturn zd_125_30 (by decide +kernel)
  · rw [if_neg c1] at H
    rw [zp_if_ne_f (x := (σ 2 13)) (t := 10) zd_125_4 rfl c1]
    rw [zs_bipush (z := (-101)) zd_125_7 (by decide)]
    have H := Option.some.inj H
    subst H
    exact zs_ireturn zd_125_9 (by decide +kernel)
set_option maxRecDepth 20000 in
theorem zt_M_isStep {a b L : Nat} {σ : zS} {τ : zT} {x1 : Int32} {x2 : Int32} {r : Int32} (H : zf_M_isStep σ x1 x2 = some r) : zx_go 1 127 0 [some (.ref 82), some (.int x1), some (.int x2)] [] ((119, a, b), zx_pk (zK L) 119, σ, τ, zR) = some (some (.int r), ((119, a, b), zx_pk (zK L) 119, σ, τ, zR)) := by
  unfold zf_M_isStep at H
  rw [zs_iload_n (ls := [some (.ref 82), some (.int x1), some (.int x2)]) zd_127_0 rfl]
  rw [zs_iconst (z := 0) zd_127_1 (by decide)]
  rw [zs_aload_n (ls := [some (.ref 82), some (.int x1), some (.int x2)]) zd_127_2 rfl]
  rw [zp_getI (n := 119) (K := zx_pk (zK L) 119) (σ := σ) (c := 12) (k := 17) (q := 82) (v := (σ 82 17)) zd_127_3 rfl rfl rfl (by decide) rfl]
  rw [zs_iconst (z := 1) zd_127_6 (by decide)]
  rw [zp_isub (x := (σ 82 17)) (y := 1) (z := ((σ 82 17) - 1)) zd_127_7 rfl]
  obtain ⟨r1, hr1, H⟩ := Option.bind_eq_some_iff.mp H
  rw [zp_callSi (x := r1) (st := [.int ((σ 82 17) - 1), .int 0, .int x1]) (as := [.int x1, .int 0, .int ((σ 82 17) - 1)]) (rest := []) (e := 0) zd_127_8 rfl (by decide +kernel) (by decide) rfl rfl (Nat.le_of_ble_eq_true rfl) rfl (Nat.le_of_ble_eq_true rfl) rfl (by decide) (zt_M_in hr1)]
  by_cases c2 : r1 = 0
  · rw [if_pos c2] at H
    rw [zp_if_eq_t (x := r1) (t := 34) zd_127_11 rfl c2]
    rw [zs_iconst (z := 0) zd_127_34 (by decide)]
    have H := Option.some.inj H
    subst H
    exact zs_ireturn zd_127_35 (by decide +kernel)
  · rw [if_neg c2] at H
    rw [zp_if_eq_f (x := r1) (t := 34) zd_127_11 rfl c2]
    rw [zs_iload_n (ls := [some (.ref 82), some (.int x1), some (.int x2)]) zd_127_14 rfl]
    rw [zs_iconst (z := 0) zd_127_15 (by decide)]
    rw [zs_aload_n (ls := [some (.ref 82), some (.int x1), some (.int x2)]) zd_127_16 rfl]
    rw [zs_getR (n := 119) (K := zx_pk (zK L) 119) (ρ := zR) (c := 12) (k := 24) (q := 82) (p := 90) zd_127_17 rfl rfl rfl (by decide) rfl]
    rw [zs_iload_n (ls := [some (.ref 82), some (.int x1), some (.int x2)]) zd_127_20 rfl]
    by_cases c3 : 0 ≤ x1 ∧ x1 < 4
    · rw [if_pos c3] at H
      rw [zp_iaload (n := 119) (K := zx_pk (zK L) 119) (σ := σ) (q := 90) (m := 4) (i := x1) (k := x1.toNatClampNeg) (v := (σ 90 x1.toNatClampNeg)) zd_127_21 rfl (by decide) (zJ_in c3 rfl) rfl rfl]
      rw [zs_iconst (z := 1) zd_127_22 (by decide)]
      rw [zp_isub (x := (σ 90 x1.toNatClampNeg)) (y := 1) (z := ((σ 90 x1.toNatClampNeg) - 1)) zd_127_23 rfl]
      obtain ⟨r4, hr4, H⟩ := Option.bind_eq_some_iff.mp H
      rw [zp_callSi (x := r4) (st := [.int ((σ 90 x1.toNatClampNeg) - 1), .int 0, .int x2]) (as := [.int x2, .int 0, .int ((σ 90 x1.toNatClampNeg) - 1)]) (rest := []) (e := 0) zd_127_24 rfl (by decide +kernel) (by decide) rfl rfl (Nat.le_of_ble_eq_true rfl) rfl (Nat.le_of_ble_eq_true rfl) rfl (by decide) (zt_M_in hr4)]
      by_cases c5 : r4 = 0
      · rw [if_pos c5] at H
        rw [zp_if_eq_t (x := r4) (t := 34) zd_127_27 rfl c5]
        rw [zs_iconst (z := 0) zd_127_34 (by decide)]
        have H := Option.some.inj H
        subst H
        exact zs_ireturn zd_127_35 (by decide +kernel)
      · rw [if_neg c5] at H
        rw [zp_if_eq_f (x := r4) (t := 34) zd_127_27 rfl c5]
        rw [zs_iconst (z := 1) zd_127_30 (by decide)]
        rw [zs_goto (t := 35) zd_127_31 rfl]
        have H := Option.some.inj H
        subst H
        exact zs_ireturn zd_127_35 (by decide +kernel)
    · rw [if_neg c3] at H
      cases H
set_option maxRecDepth 20000 in
theorem zt_M_step_192 {a b L : Nat} {σ : zS} {τ : zT} {v4 : Int32} {o1 : Option Value} {o2 : Option Value} {o3 : Option Value} {o5 : Option Value} {r : Int32 × zS} (H : zb_M_step_192 σ v4 = some r) : zx_go 2 126 192 [some (.ref 82), o1, o2, o3, some (.int v4), o5] [] ((119, a, b), zx_pk (zK L) 119, σ, τ, zR) = some (some (.int r.1), ((119, a, b), zx_pk (zK L) 119, r.2, τ, zR)) := by
  unfold zb_M_step_192 at H
  rw [zs_aload_n (ls := [some (.ref 82), o1, o2, o3, some (.int v4), o5]) zd_126_192 rfl]
  rw [zs_getR (n := 119) (K := zx_pk (zK L) 119) (ρ := zR) (c := 12) (k := 30) (q := 82) (p := 95) zd_126_193 rfl rfl rfl (by decide) rfl]
  rw [zs_iload (ls := [some (.ref 82), o1, o2, o3, some (.int v4), o5]) zd_126_196 rfl]
  by_cases c16 : 0 ≤ v4 ∧ v4 < 96
  · rw [if_pos c16] at H
    rw [zp_iaload (n := 119) (K := zx_pk (zK L) 119) (σ := σ) (q := 95) (m := 96) (i := v4) (k := v4.toNatClampNeg) (v := (σ 95 v4.toNatClampNeg)) zd_126_198 rfl (by decide) (zJ_in c16 rfl) rfl rfl]
    rw [zs_goto (t := 203) zd_126_199 rfl]
    have H := Option.some.inj H
    subst H
    exact zs_ireturn zd_126_203 rfl
  · rw [if_neg c16] at H
    cases H
set_option maxRecDepth 20000 in
theorem zt_M_step_93 {a b L : Nat} {σ : zS} {τ : zT} {v3 : Int32} {v4 : Int32} {s0 : Int32} {o1 : Option Value} {o2 : Option Value} {o5 : Option Value} {r : Int32 × zS} (H : zb_M_step_93 σ v3 v4 s0 = some r) : zx_go 2 126 93 [some (.ref 82), o1, o2, some (.int v3), some (.int v4), o5] [.int s0] ((119, a, b), zx_pk (zK L) 119, σ, τ, zR) = some (some (.int r.1), ((119, a, b), zx_pk (zK L) 119, r.2, τ, zR)) := by
  unfold zb_M_step_93 at H
  rw [zs_istore (x := s0) (ls' := [some (.ref 82), o1, o2, some (.int v3), some (.int v4), some (.int s0)]) zd_126_93 (Nat.le_of_ble_eq_true rfl) rfl]
  rw [zs_iload_n (ls := [some (.ref 82), o1, o2, some (.int v3), some (.int v4), some (.int s0)]) zd_126_95 rfl]
  by_cases c6 : v3 = 0
  · rw [if_pos c6] at H
    rw [zs_table (x := v3) (off := 40) (t := 136) zd_126_96 (by rw [c6]; decide) rfl]
    rw [zs_aload_n (ls := [some (.ref 82), o1, o2, some (.int v3), some (.int v4), some (.int s0)]) zd_126_136 rfl]
    rw [zs_getR (n := 119) (K := zx_pk (zK L) 119) (ρ := zR) (c := 12) (k := 27) (q := 82) (p := 92) zd_126_137 rfl rfl rfl (by decide) rfl]
    rw [zs_iload (ls := [some (.ref 82), o1, o2, some (.int v3), some (.int v4), some (.int s0)]) zd_126_140 rfl]
    by_cases c22 : 0 ≤ v4 ∧ v4 < 96
    · rw [if_pos c22] at H
      rw [zp_iaload (n := 119) (K := zx_pk (zK L) 119) (σ := σ) (q := 92) (m := 96) (i := v4) (k := v4.toNatClampNeg) (v := (σ 92 v4.toNatClampNeg)) zd_126_142 rfl (by decide) (zJ_in c22 rfl) rfl rfl]
      have H := Option.some.inj H
      subst H
      exact zs_ireturn zd_126_143 rfl
    · rw [if_neg c22] at H
      cases H
  · rw [if_neg c6] at H
    by_cases c7 : v3 = 1
    · rw [if_pos c7] at H
      rw [zs_table (x := v3) (off := 48) (t := 144) zd_126_96 (by rw [c7]; decide) rfl]
      rw [zs_iload (ls := [some (.ref 82), o1, o2, some (.int v3), some (.int v4), some (.int s0)]) zd_126_144 rfl]
      by_cases c20 : s0 = 0
      · rw [if_pos c20] at H
        rw [zp_if_eq_t (x := s0) (t := 159) zd_126_146 rfl c20]
        rw [zs_iconst (z := (-1)) zd_126_159 (by decide)]
        have H := Option.some.inj H
        subst H
        exact zs_ireturn zd_126_160 (by decide +kernel)
      · rw [if_neg c20] at H
        rw [zp_if_eq_f (x := s0) (t := 159) zd_126_146 rfl c20]
        rw [zs_aload_n (ls := [some (.ref 82), o1, o2, some (.int v3), some (.int v4), some (.int s0)]) zd_126_149 rfl]
        rw [zs_getR (n := 119) (K := zx_pk (zK L) 119) (ρ := zR) (c := 12) (k := 28) (q := 82) (p := 93) zd_126_150 rfl rfl rfl (by decide) rfl]
        rw [zs_iload (ls := [some (.ref 82), o1, o2, some (.int v3), some (.int v4), some (.int s0)]) zd_126_153 rfl]
        by_cases c21 : 0 ≤ v4 ∧ v4 < 96
        · rw [if_pos c21] at H
          rw [zp_iaload (n := 119) (K := zx_pk (zK L) 119) (σ := σ) (q := 93) (m := 96) (i := v4) (k := v4.toNatClampNeg) (v := (σ 93 v4.toNatClampNeg)) zd_126_155 rfl (by decide) (zJ_in c21 rfl) rfl rfl]
          rw [zs_goto (t := 160) zd_126_156 rfl]
          have H := Option.some.inj H
          subst H
          exact zs_ireturn zd_126_160 rfl
        · rw [if_neg c21] at H
          cases H
    · rw [if_neg c7] at H
      by_cases c8 : v3 = 2
      · rw [if_pos c8] at H
        rw [zs_table (x := v3) (off := 65) (t := 161) zd_126_96 (by rw [c8]; decide) rfl]
        rw [zs_aload_n (ls := [some (.ref 82), o1, o2, some (.int v3), some (.int v4), some (.int s0)]) zd_126_161 rfl]
        rw [zs_getR (n := 119) (K := zx_pk (zK L) 119) (ρ := zR) (c := 12) (k := 29) (q := 82) (p := 94) zd_126_162 rfl rfl rfl (by decide) rfl]
        rw [zs_iload (ls := [some (.ref 82), o1, o2, some (.int v3), some (.int v4), some (.int s0)]) zd_126_165 rfl]
        by_cases c19 : 0 ≤ v4 ∧ v4 < 96
        · rw [if_pos c19] at H
          rw [zp_iaload (n := 119) (K := zx_pk (zK L) 119) (σ := σ) (q := 94) (m := 96) (i := v4) (k := v4.toNatClampNeg) (v := (σ 94 v4.toNatClampNeg)) zd_126_167 rfl (by decide) (zJ_in c19 rfl) rfl rfl]
          have H := Option.some.inj H
          subst H
          exact zs_ireturn zd_126_168 rfl
        · rw [if_neg c19] at H
          cases H
      · rw [if_neg c8] at H
        by_cases c9 : v3 = 3
        · rw [if_pos c9] at H
          rw [zs_table (x := v3) (off := 73) (t := 169) zd_126_96 (by rw [c9]; decide) rfl]
          rw [zs_aload_n (ls := [some (.ref 82), o1, o2, some (.int v3), some (.int v4), some (.int s0)]) zd_126_169 rfl]
          rw [zs_getR (n := 119) (K := zx_pk (zK L) 119) (ρ := zR) (c := 12) (k := 27) (q := 82) (p := 92) zd_126_170 rfl rfl rfl (by decide) rfl]
          rw [zs_iload (ls := [some (.ref 82), o1, o2, some (.int v3), some (.int v4), some (.int s0)]) zd_126_173 rfl]
          by_cases c14 : 0 ≤ v4 ∧ v4 < 96
          · rw [if_pos c14] at H
            rw [zp_iaload (n := 119) (K := zx_pk (zK L) 119) (σ := σ) (q := 92) (m := 96) (i := v4) (k := v4.toNatClampNeg) (v := (σ 92 v4.toNatClampNeg)) zd_126_175 rfl (by decide) (zJ_in c14 rfl) rfl rfl]
            rw [zs_iconst (z := 5) zd_126_176 (by decide)]
            by_cases c15 : (σ 92 v4.toNatClampNeg) = 5
            · rw [if_pos c15] at H
              rw [zp_icmp_eq_t (x := (σ 92 v4.toNatClampNeg)) (y := 5) (t := 192) zd_126_177 rfl c15]
              exact zt_M_step_192  H
            · rw [if_neg c15] at H
              rw [zp_icmp_eq_f (x := (σ 92 v4.toNatClampNeg)) (y := 5) (t := 192) zd_126_177 rfl c15]
              rw [zs_aload_n (ls := [some (.ref 82), o1, o2, some (.int v3), some (.int v4), some (.int s0)]) zd_126_180 rfl]
              rw [zs_getR (n := 119) (K := zx_pk (zK L) 119) (ρ := zR) (c := 12) (k := 27) (q := 82) (p := 92) zd_126_181 rfl rfl rfl (by decide) rfl]
              rw [zs_iload (ls := [some (.ref 82), o1, o2, some (.int v3), some (.int v4), some (.int s0)]) zd_126_184 rfl]
              by_cases c17 : 0 ≤ v4 ∧ v4 < 96
              · rw [if_pos c17] at H
                rw [zp_iaload (n := 119) (K := zx_pk (zK L) 119) (σ := σ) (q := 92) (m := 96) (i := v4) (k := v4.toNatClampNeg) (v := (σ 92 v4.toNatClampNeg)) zd_126_186 rfl (by decide) (zJ_in c17 rfl) rfl rfl]
                rw [zs_bipush (z := 6) zd_126_187 (by decide)]
                by_cases c18 : ¬ (σ 92 v4.toNatClampNeg) = 6
                · rw [if_pos c18] at H
                  rw [zp_icmp_ne_t (x := (σ 92 v4.toNatClampNeg)) (y := 6) (t := 202) zd_126_189 rfl c18]
                  rw [zs_iconst (z := (-1)) zd_126_202 (by decide)]
                  have H := Option.some.inj H
                  subst H
                  exact zs_ireturn zd_126_203 (by decide +kernel)
                · rw [if_neg c18] at H
                  rw [zp_icmp_ne_f (x := (σ 92 v4.toNatClampNeg)) (y := 6) (t := 202) zd_126_189 rfl c18]
                  exact zt_M_step_192  H
              · rw [if_neg c17] at H
                cases H
          · rw [if_neg c14] at H
            cases H
        · rw [if_neg c9] at H
          by_cases c10 : v3 = 4
          · rw [if_pos c10] at H
            rw [zs_table (x := v3) (off := 108) (t := 204) zd_126_96 (by rw [c10]; decide) rfl]
            rw [zs_aload_n (ls := [some (.ref 82), o1, o2, some (.int v3), some (.int v4), some (.int s0)]) zd_126_204 rfl]
            rw [zs_getR (n := 119) (K := zx_pk (zK L) 119) (ρ := zR) (c := 12) (k := 31) (q := 82) (p := 96) zd_126_205 rfl rfl rfl (by decide) rfl]
            rw [zs_iload (ls := [some (.ref 82), o1, o2, some (.int v3), some (.int v4), some (.int s0)]) zd_126_208 rfl]
            by_cases c13 : 0 ≤ v4 ∧ v4 < 96
            · rw [if_pos c13] at H
              rw [zp_iaload (n := 119) (K := zx_pk (zK L) 119) (σ := σ) (q := 96) (m := 96) (i := v4) (k := v4.toNatClampNeg) (v := (σ 96 v4.toNatClampNeg)) zd_126_210 rfl (by decide) (zJ_in c13 rfl) rfl rfl]
              have H := Option.some.inj H
              subst H
              exact zs_ireturn zd_126_211 rfl
            · rw [if_neg c13] at H
              cases H
          · rw [if_neg c10] at H
            by_cases c11 : v3 = 5
            · rw [if_pos c11] at H
              rw [zs_table (x := v3) (off := 116) (t := 212) zd_126_96 (by rw [c11]; decide) rfl]
              rw [zs_aload_n (ls := [some (.ref 82), o1, o2, some (.int v3), some (.int v4), some (.int s0)]) zd_126_212 rfl]
              rw [zs_getR (n := 119) (K := zx_pk (zK L) 119) (ρ := zR) (c := 12) (k := 32) (q := 82) (p := 97) zd_126_213 rfl rfl rfl (by decide) rfl]
              rw [zs_iload (ls := [some (.ref 82), o1, o2, some (.int v3), some (.int v4), some (.int s0)]) zd_126_216 rfl]
              by_cases c12 : 0 ≤ v4 ∧ v4 < 96
              · rw [if_pos c12] at H
                rw [zp_iaload (n := 119) (K := zx_pk (zK L) 119) (σ := σ) (q := 97) (m := 96) (i := v4) (k := v4.toNatClampNeg) (v := (σ 97 v4.toNatClampNeg)) zd_126_218 rfl (by decide) (zJ_in c12 rfl) rfl rfl]
                have H := Option.some.inj H
                subst H
                exact zs_ireturn zd_126_219 rfl
              · rw [if_neg c12] at H
                cases H
            · rw [if_neg c11] at H
              rw [zs_table (x := v3) (off := 124) (t := 220) zd_126_96 (if_pos (by have e : ∀ z : Int32, ¬ v3 = z → ¬ (v3 : Int32).toInt = z.toInt := fun z h q => h (Int32.toInt_inj.mp q); have q0 := e 0 c6; have q1 := e 1 c7; have q2 := e 2 c8; have q3 := e 3 c9; have q4 := e 4 c10; have q5 := e 5 c11; simp only [show (0 : Int32).toInt = 0 from rfl, show (1 : Int32).toInt = 1 from rfl, show (2 : Int32).toInt = 2 from rfl, show (3 : Int32).toInt = 3 from rfl, show (4 : Int32).toInt = 4 from rfl, show (5 : Int32).toInt = 5 from rfl] at q0 q1 q2 q3 q4 q5; omega)) rfl]
              rw [zs_bipush (z := (-102)) zd_126_220 (by decide)]
              have H := Option.some.inj H
              subst H
              exact zs_ireturn zd_126_222 (by decide +kernel)
set_option maxRecDepth 20000 in
theorem zt_M_step_88 {a b L : Nat} {σ : zS} {τ : zT} {v3 : Int32} {v4 : Int32} {o1 : Option Value} {o2 : Option Value} {o5 : Option Value} {r : Int32 × zS} (H : zb_M_step_88 σ v3 v4 = some r) : zx_go 2 126 88 [some (.ref 82), o1, o2, some (.int v3), some (.int v4), o5] [] ((119, a, b), zx_pk (zK L) 119, σ, τ, zR) = some (some (.int r.1), ((119, a, b), zx_pk (zK L) 119, r.2, τ, zR)) := by
  unfold zb_M_step_88 at H
  rw [zs_iconst (z := 1) zd_126_88 (by decide)]
  rw [zs_goto (t := 93) zd_126_89 rfl]
  exact zt_M_step_93  H
set_option maxRecDepth 20000 in
theorem zt_M_step {a b L : Nat} {σ : zS} {τ : zT} {x1 : Int32} {x2 : Int32} {x3 : Int32} {r : Int32 × zS} (H : zf_M_step σ x1 x2 x3 = some r) : zx_go 2 126 0 [some (.ref 82), some (.int x1), some (.int x2), some (.int x3), none, none] [] ((119, a, b), zx_pk (zK L) 119, σ, τ, zR) = some (some (.int r.1), ((119, a, b), zx_pk (zK L) 119, r.2, τ, zR)) := by
  unfold zf_M_step at H
  rw [zs_aload_n (ls := [some (.ref 82), some (.int x1), some (.int x2), some (.int x3), none, none]) zd_126_0 rfl]
  rw [zs_iconst (z := 0) zd_126_1 (by decide)]
  rw [zs_putI (n := 119) (K := zx_pk (zK L) 119) (c := 12) (k := 0) (q := 82) (x := 0) zd_126_2 rfl rfl (by decide +kernel) rfl (by decide)]
  rw [zs_aload_n (ls := [some (.ref 82), some (.int x1), some (.int x2), some (.int x3), none, none]) zd_126_5 rfl]
  rw [zp_getZ (n := 119) (K := zx_pk (zK L) 119) (σ := (zx_up σ 82 0 0)) (c := 12) (k := 21) (q := 82) (v := (σ 82 21)) zd_126_6 rfl rfl rfl (by decide) (show ((zx_up σ 82 0 0) : zS) 82 21 = (σ 82 21) from ((zx_up_nj (by decide)).trans rfl))]
  by_cases c1 : ¬ (σ 82 21) = 0
  · rw [if_pos c1] at H
    rw [zp_if_ne_t (x := (σ 82 21)) (t := 15) zd_126_9 rfl c1]
    rw [zs_aload_n (ls := [some (.ref 82), some (.int x1), some (.int x2), some (.int x3), none, none]) zd_126_15 rfl]
    rw [zs_iload_n (ls := [some (.ref 82), some (.int x1), some (.int x2), some (.int x3), none, none]) zd_126_16 rfl]
    rw [zs_iload_n (ls := [some (.ref 82), some (.int x1), some (.int x2), some (.int x3), none, none]) zd_126_17 rfl]
    obtain ⟨r2, hr2, H⟩ := Option.bind_eq_some_iff.mp H
    rw [zp_callVi (x := r2) (st := [.int x2, .int x1, .ref 82]) (as := [.ref 82, .int x1, .int x2]) (rest := []) (e := 1) zd_126_18 rfl (by decide +kernel) (by decide) rfl rfl (Nat.le_of_ble_eq_true rfl) (zx_rcb_ok rfl (show 82 < 119 by decide)) (Nat.le_of_ble_eq_true rfl) rfl (by decide) (zt_M_isStep hr2)]
    by_cases c3 : ¬ r2 = 0
    · rw [if_pos c3] at H
      rw [zp_if_ne_t (x := r2) (t := 27) zd_126_21 rfl c3]
      rw [zs_bipush (z := 24) zd_126_27 (by decide)]
      rw [zs_iload_n (ls := [some (.ref 82), some (.int x1), some (.int x2), some (.int x3), none, none]) zd_126_29 rfl]
      rw [zp_imul (x := 24) (y := x1) (z := (24 * x1)) zd_126_30 rfl]
      rw [zs_iload_n (ls := [some (.ref 82), some (.int x1), some (.int x2), some (.int x3), none, none]) zd_126_31 rfl]
      rw [zp_iadd (x := (24 * x1)) (y := x2) (z := ((24 * x1) + x2)) zd_126_32 rfl]
      rw [zs_istore (x := ((24 * x1) + x2)) (ls' := [some (.ref 82), some (.int x1), some (.int x2), some (.int x3), some (.int ((24 * x1) + x2)), none]) zd_126_33 (Nat.le_of_ble_eq_true rfl) rfl]
      rw [zs_aload_n (ls := [some (.ref 82), some (.int x1), some (.int x2), some (.int x3), some (.int ((24 * x1) + x2)), none]) zd_126_35 rfl]
      rw [zs_getR (n := 119) (K := zx_pk (zK L) 119) (ρ := zR) (c := 12) (k := 27) (q := 82) (p := 92) zd_126_36 rfl rfl rfl (by decide) rfl]
      rw [zs_iload (ls := [some (.ref 82), some (.int x1), some (.int x2), some (.int x3), some (.int ((24 * x1) + x2)), none]) zd_126_39 rfl]
      by_cases c4 : 0 ≤ ((24 * x1) + x2) ∧ ((24 * x1) + x2) < 96
      · rw [if_pos c4] at H
        rw [zp_iaload (n := 119) (K := zx_pk (zK L) 119) (σ := (zx_up σ 82 0 0)) (q := 92) (m := 96) (i := ((24 * x1) + x2)) (k := ((24 * x1) + x2).toNatClampNeg) (v := (σ 92 ((24 * x1) + x2).toNatClampNeg)) zd_126_41 rfl (by decide) (zJ_in c4 rfl) rfl (show ((zx_up σ 82 0 0) : zS) 92 ((24 * x1) + x2).toNatClampNeg = (σ 92 ((24 * x1) + x2).toNatClampNeg) from ((zx_up_ne (by decide)).trans rfl))]
        by_cases c5 : (σ 92 ((24 * x1) + x2).toNatClampNeg) = 0
        · rw [if_pos c5] at H
          rw [zp_if_eq_t (x := (σ 92 ((24 * x1) + x2).toNatClampNeg)) (t := 88) zd_126_42 rfl c5]
          exact zt_M_step_88  H
        · rw [if_neg c5] at H
          rw [zp_if_eq_f (x := (σ 92 ((24 * x1) + x2).toNatClampNeg)) (t := 88) zd_126_42 rfl c5]
          rw [zs_aload_n (ls := [some (.ref 82), some (.int x1), some (.int x2), some (.int x3), some (.int ((24 * x1) + x2)), none]) zd_126_45 rfl]
          rw [zs_getR (n := 119) (K := zx_pk (zK L) 119) (ρ := zR) (c := 12) (k := 27) (q := 82) (p := 92) zd_126_46 rfl rfl rfl (by decide) rfl]
          rw [zs_iload (ls := [some (.ref 82), some (.int x1), some (.int x2), some (.int x3), some (.int ((24 * x1) + x2)), none]) zd_126_49 rfl]
          by_cases c23 : 0 ≤ ((24 * x1) + x2) ∧ ((24 * x1) + x2) < 96
          · rw [if_pos c23] at H
            rw [zp_iaload (n := 119) (K := zx_pk (zK L) 119) (σ := (zx_up σ 82 0 0)) (q := 92) (m := 96) (i := ((24 * x1) + x2)) (k := ((24 * x1) + x2).toNatClampNeg) (v := (σ 92 ((24 * x1) + x2).toNatClampNeg)) zd_126_51 rfl (by decide) (zJ_in c23 rfl) rfl (show ((zx_up σ 82 0 0) : zS) 92 ((24 * x1) + x2).toNatClampNeg = (σ 92 ((24 * x1) + x2).toNatClampNeg) from ((zx_up_ne (by decide)).trans rfl))]
            rw [zs_iconst (z := 1) zd_126_52 (by decide)]
            by_cases c24 : (σ 92 ((24 * x1) + x2).toNatClampNeg) = 1
            · rw [if_pos c24] at H
              rw [zp_icmp_eq_t (x := (σ 92 ((24 * x1) + x2).toNatClampNeg)) (y := 1) (t := 88) zd_126_53 rfl c24]
              exact zt_M_step_88  H
            · rw [if_neg c24] at H
              rw [zp_icmp_eq_f (x := (σ 92 ((24 * x1) + x2).toNatClampNeg)) (y := 1) (t := 88) zd_126_53 rfl c24]
              rw [zs_aload_n (ls := [some (.ref 82), some (.int x1), some (.int x2), some (.int x3), some (.int ((24 * x1) + x2)), none]) zd_126_56 rfl]
              rw [zs_getR (n := 119) (K := zx_pk (zK L) 119) (ρ := zR) (c := 12) (k := 27) (q := 82) (p := 92) zd_126_57 rfl rfl rfl (by decide) rfl]
              rw [zs_iload (ls := [some (.ref 82), some (.int x1), some (.int x2), some (.int x3), some (.int ((24 * x1) + x2)), none]) zd_126_60 rfl]
              by_cases c25 : 0 ≤ ((24 * x1) + x2) ∧ ((24 * x1) + x2) < 96
              · rw [if_pos c25] at H
                rw [zp_iaload (n := 119) (K := zx_pk (zK L) 119) (σ := (zx_up σ 82 0 0)) (q := 92) (m := 96) (i := ((24 * x1) + x2)) (k := ((24 * x1) + x2).toNatClampNeg) (v := (σ 92 ((24 * x1) + x2).toNatClampNeg)) zd_126_62 rfl (by decide) (zJ_in c25 rfl) rfl (show ((zx_up σ 82 0 0) : zS) 92 ((24 * x1) + x2).toNatClampNeg = (σ 92 ((24 * x1) + x2).toNatClampNeg) from ((zx_up_ne (by decide)).trans rfl))]
                rw [zs_iconst (z := 3) zd_126_63 (by decide)]
                rw [zs_iconst (z := 4) zd_126_64 (by decide)]
                obtain ⟨r26, hr26, H⟩ := Option.bind_eq_some_iff.mp H
                rw [zp_callSi (x := r26) (st := [.int 4, .int 3, .int (σ 92 ((24 * x1) + x2).toNatClampNeg)]) (as := [.int (σ 92 ((24 * x1) + x2).toNatClampNeg), .int 3, .int 4]) (rest := []) (e := 0) zd_126_65 rfl (by decide +kernel) (by decide) rfl rfl (Nat.le_of_ble_eq_true rfl) rfl (Nat.le_of_ble_eq_true rfl) rfl (by decide) (zt_M_in hr26)]
                by_cases c27 : ¬ r26 = 0
                · rw [if_pos c27] at H
                  rw [zp_if_ne_t (x := r26) (t := 88) zd_126_68 rfl c27]
                  exact zt_M_step_88  H
                · rw [if_neg c27] at H
                  rw [zp_if_ne_f (x := r26) (t := 88) zd_126_68 rfl c27]
                  rw [zs_aload_n (ls := [some (.ref 82), some (.int x1), some (.int x2), some (.int x3), some (.int ((24 * x1) + x2)), none]) zd_126_71 rfl]
                  rw [zs_getR (n := 119) (K := zx_pk (zK L) 119) (ρ := zR) (c := 12) (k := 27) (q := 82) (p := 92) zd_126_72 rfl rfl rfl (by decide) rfl]
                  rw [zs_iload (ls := [some (.ref 82), some (.int x1), some (.int x2), some (.int x3), some (.int ((24 * x1) + x2)), none]) zd_126_75 rfl]
                  by_cases c28 : 0 ≤ ((24 * x1) + x2) ∧ ((24 * x1) + x2) < 96
                  · rw [if_pos c28] at H
                    rw [zp_iaload (n := 119) (K := zx_pk (zK L) 119) (σ := (zx_up σ 82 0 0)) (q := 92) (m := 96) (i := ((24 * x1) + x2)) (k := ((24 * x1) + x2).toNatClampNeg) (v := (σ 92 ((24 * x1) + x2).toNatClampNeg)) zd_126_77 rfl (by decide) (zJ_in c28 rfl) rfl (show ((zx_up σ 82 0 0) : zS) 92 ((24 * x1) + x2).toNatClampNeg = (σ 92 ((24 * x1) + x2).toNatClampNeg) from ((zx_up_ne (by decide)).trans rfl))]
                    rw [zs_bipush (z := 7) zd_126_78 (by decide)]
                    rw [zs_bipush (z := 11) zd_126_80 (by decide)]
                    obtain ⟨r29, hr29, H⟩ := Option.bind_eq_some_iff.mp H
                    rw [zp_callSi (x := r29) (st := [.int 11, .int 7, .int (σ 92 ((24 * x1) + x2).toNatClampNeg)]) (as := [.int (σ 92 ((24 * x1) + x2).toNatClampNeg), .int 7, .int 11]) (rest := []) (e := 0) zd_126_82 rfl (by decide +kernel) (by decide) rfl rfl (Nat.le_of_ble_eq_true rfl) rfl (Nat.le_of_ble_eq_true rfl) rfl (by decide) (zt_M_in hr29)]
                    by_cases c30 : r29 = 0
                    · rw [if_pos c30] at H
                      rw [zp_if_eq_t (x := r29) (t := 92) zd_126_85 rfl c30]
                      rw [zs_iconst (z := 0) zd_126_92 (by decide)]
                      exact zt_M_step_93  H
                    · rw [if_neg c30] at H
                      rw [zp_if_eq_f (x := r29) (t := 92) zd_126_85 rfl c30]
                      exact zt_M_step_88  H
                  · rw [if_neg c28] at H
                    cases H
              · rw [if_neg c25] at H
                cases H
          · rw [if_neg c23] at H
            cases H
      · rw [if_neg c4] at H
        cases H
    · rw [if_neg c3] at H
      rw [zp_if_ne_f (x := r2) (t := 27) zd_126_21 rfl c3]
      rw [zs_bipush (z := (-102)) zd_126_24 (by decide)]
      have H := Option.some.inj H
      subst H
      exact zs_ireturn zd_126_26 (by decide +kernel)
  · rw [if_neg c1] at H
    rw [zp_if_ne_f (x := (σ 82 21)) (t := 15) zd_126_9 rfl c1]
    rw [zs_bipush (z := (-101)) zd_126_12 (by decide)]
    have H := Option.some.inj H
    subst H
    exact zs_ireturn zd_126_14 (by decide +kernel)
set_option maxRecDepth 20000 in
theorem zt_Arrays_fill_c3_5 {a b L N : Nat} : ∀ {n : Nat} {σ : zS} {τ : zT} {v1 : Int32} {v2 : Int32} {v3 : Int32} {r : zS}, zb_Arrays_fill_c3_5 N n σ v1 v2 v3 = some r → zx_go 0 22 5 [some (.ref 45), some (.int v1), some (.int v2), some (.int v3)] [] ((119, a, b), zx_pk (zK L) 119, σ, τ, zR) = some (none, ((119, a, b), zx_pk (zK L) 119, r, τ, zR)) := by
  intro n
  induction n with
  | zero =>
    intro _ _ _ _ _ _ H
    cases H
  | succ n ih =>
    intro σ τ v1 v2 v3 r H
    rw [zb_Arrays_fill_c3_5] at H
    rw [zs_iload_n (ls := [some (.ref 45), some (.int v1), some (.int v2), some (.int v3)]) zd_22_5 rfl]
    rw [zs_iload_n (ls := [some (.ref 45), some (.int v1), some (.int v2), some (.int v3)]) zd_22_6 rfl]
    by_cases c1 : v3 ≤ v2
    · rw [if_pos c1] at H
      rw [zp_icmp_ge_t (x := v2) (y := v3) (t := 20) zd_22_7 rfl c1]
      have H := Option.some.inj H
      subst H
      exact zs_return zd_22_20 (by decide +kernel)
    · rw [if_neg c1] at H
      rw [zp_icmp_ge_f (x := v2) (y := v3) (t := 20) zd_22_7 rfl c1]
      rw [zs_aload_n (ls := [some (.ref 45), some (.int v1), some (.int v2), some (.int v3)]) zd_22_10 rfl]
      rw [zs_iload_n (ls := [some (.ref 45), some (.int v1), some (.int v2), some (.int v3)]) zd_22_11 rfl]
      rw [zs_iload_n (ls := [some (.ref 45), some (.int v1), some (.int v2), some (.int v3)]) zd_22_12 rfl]
      by_cases c2 : 0 ≤ v2 ∧ v2 < 8192
      · rw [if_pos c2] at H
        rw [zp_iastore (n := 119) (K := zx_pk (zK L) 119) (q := 45) (m := 8192) (i := v2) (k := v2.toNatClampNeg) (x := v1) (z := v1) zd_22_13 rfl ⟨by decide, by decide⟩ (zJ_in c2 rfl) rfl rfl]
        rw [zs_iinc (ls := [some (.ref 45), some (.int v1), some (.int v2), some (.int v3)]) (x := v2) (z := (v2 + 1)) (ls' := [some (.ref 45), some (.int v1), some (.int (v2 + 1)), some (.int v3)]) zd_22_14 rfl rfl rfl]
        rw [zs_goto (t := 5) zd_22_17 rfl]
        exact ih H
      · rw [if_neg c2] at H
        cases H
set_option maxRecDepth 20000 in
theorem zt_Arrays_fill_c3 {a b L N : Nat} {σ : zS} {τ : zT} {x2 : Int32} {r : zS} (H : zf_Arrays_fill_c3 N σ x2 = some r) : zx_go 0 22 0 [some (.ref 45), some (.int x2), none, none] [] ((119, a, b), zx_pk (zK L) 119, σ, τ, zR) = some (none, ((119, a, b), zx_pk (zK L) 119, r, τ, zR)) := by
  unfold zf_Arrays_fill_c3 at H
  rw [zs_iconst (z := 0) zd_22_0 (by decide)]
  rw [zs_istore_n (x := 0) (ls' := [some (.ref 45), some (.int x2), some (.int 0), none]) zd_22_1 (Nat.le_of_ble_eq_true rfl) rfl]
  rw [zs_aload_n (ls := [some (.ref 45), some (.int x2), some (.int 0), none]) zd_22_2 rfl]
  rw [zs_arraylength (n := 119) (K := zx_pk (zK L) 119) (q := 45) (m := 8192) (z := 8192) zd_22_3 rfl (by decide) (by decide)]
  rw [zs_istore_n (x := 8192) (ls' := [some (.ref 45), some (.int x2), some (.int 0), some (.int 8192)]) zd_22_4 (Nat.le_of_ble_eq_true rfl) rfl]
  exact zt_Arrays_fill_c3_5  H
set_option maxRecDepth 20000 in
theorem zt_Program_startersOf {a b L : Nat} {σ : zS} {τ : zT} {x1 : Int32} {r : Int32} (H : zf_Program_startersOf σ x1 = some r) : zx_go 0 131 0 [some (.ref 4), some (.int x1)] [] ((119, a, b), zx_pk (zK L) 119, σ, τ, zR) = some (some (.int r), ((119, a, b), zx_pk (zK L) 119, σ, τ, zR)) := by
  unfold zf_Program_startersOf at H
  rw [zs_iload_n (ls := [some (.ref 4), some (.int x1)]) zd_131_0 rfl]
  by_cases c1 : x1 < 0
  · rw [if_pos c1] at H
    rw [zp_if_lt_t (x := x1) (t := 18) zd_131_1 rfl c1]
    rw [zs_iconst (z := 0) zd_131_18 (by decide)]
    have H := Option.some.inj H
    subst H
    exact zs_ireturn zd_131_19 (by decide +kernel)
  · rw [if_neg c1] at H
    rw [zp_if_lt_f (x := x1) (t := 18) zd_131_1 rfl c1]
    rw [zs_iload_n (ls := [some (.ref 4), some (.int x1)]) zd_131_4 rfl]
    rw [zs_iconst (z := 4) zd_131_5 (by decide)]
    by_cases c2 : 4 ≤ x1
    · rw [if_pos c2] at H
      rw [zp_icmp_ge_t (x := x1) (y := 4) (t := 18) zd_131_6 rfl c2]
      rw [zs_iconst (z := 0) zd_131_18 (by decide)]
      have H := Option.some.inj H
      subst H
      exact zs_ireturn zd_131_19 (by decide +kernel)
    · rw [if_neg c2] at H
      rw [zp_icmp_ge_f (x := x1) (y := 4) (t := 18) zd_131_6 rfl c2]
      rw [zs_aload_n (ls := [some (.ref 4), some (.int x1)]) zd_131_9 rfl]
      rw [zs_getR (n := 119) (K := zx_pk (zK L) 119) (ρ := zR) (c := 6) (k := 8) (q := 4) (p := 6) zd_131_10 rfl rfl rfl (by decide) rfl]
      rw [zs_iload_n (ls := [some (.ref 4), some (.int x1)]) zd_131_13 rfl]
      by_cases c3 : 0 ≤ x1 ∧ x1 < 4
      · rw [if_pos c3] at H
        rw [zp_iaload (n := 119) (K := zx_pk (zK L) 119) (σ := σ) (q := 6) (m := 4) (i := x1) (k := x1.toNatClampNeg) (v := (σ 6 x1.toNatClampNeg)) zd_131_14 rfl (by decide) (zJ_in c3 rfl) rfl rfl]
        rw [zs_goto (t := 19) zd_131_15 rfl]
        have H := Option.some.inj H
        subst H
        exact zs_ireturn zd_131_19 rfl
      · rw [if_neg c3] at H
        cases H
set_option maxRecDepth 20000 in
theorem zt_Machine_setFirst_50 {a b L N : Nat} {k15 : zS → Int32 → Option (zS)} (hk15 : ∀ {σ : zS} {τ : zT} {v1 : Int32} {o2 : Option Value} {r : zS}, k15 σ v1 = some r → zx_go 1 130 15 [some (.ref 35), some (.int v1), o2] [] ((119, a, b), zx_pk (zK L) 119, σ, τ, zR) = some (none, ((119, a, b), zx_pk (zK L) 119, r, τ, zR))) {σ : zS} {τ : zT} {v1 : Int32} {v2 : Int32} {r : zS} (H : zb_Machine_setFirst_50 k15 N σ v1 v2 = some r) : zx_go 1 130 50 [some (.ref 35), some (.int v1), some (.int v2)] [] ((119, a, b), zx_pk (zK L) 119, σ, τ, zR) = some (none, ((119, a, b), zx_pk (zK L) 119, r, τ, zR)) := by
  unfold zb_Machine_setFirst_50 at H
  rw [zs_aload_n (ls := [some (.ref 35), some (.int v1), some (.int v2)]) zd_130_50 rfl]
  rw [zs_getR (n := 119) (K := zx_pk (zK L) 119) (ρ := zR) (c := 2) (k := 5) (q := 35) (p := 40) zd_130_51 rfl rfl rfl (by decide) rfl]
  rw [zs_iload_n (ls := [some (.ref 35), some (.int v1), some (.int v2)]) zd_130_54 rfl]
  rw [zs_iconst (z := 1) zd_130_55 (by decide)]
  rw [zp_iadd (x := v1) (y := 1) (z := (v1 + 1)) zd_130_56 rfl]
  rw [zs_iload_n (ls := [some (.ref 35), some (.int v1), some (.int v2)]) zd_130_57 rfl]
  rw [zs_bipush (z := 14) zd_130_58 (by decide)]
  rw [zp_ishl (x := v2) (y := 14) (z := (zJ_shl v2 14)) zd_130_60 rfl]
  by_cases c6 : 0 ≤ (v1 + 1) ∧ (v1 + 1) < 5
  · rw [if_pos c6] at H
    rw [zp_iastore (n := 119) (K := zx_pk (zK L) 119) (q := 40) (m := 5) (i := (v1 + 1)) (k := (v1 + 1).toNatClampNeg) (x := (zJ_shl v2 14)) (z := (zJ_shl v2 14)) zd_130_61 rfl ⟨by decide, by decide⟩ (zJ_in c6 rfl) rfl rfl]
    rw [zs_iinc (ls := [some (.ref 35), some (.int v1), some (.int v2)]) (x := v1) (z := (v1 + 1)) (ls' := [some (.ref 35), some (.int (v1 + 1)), some (.int v2)]) zd_130_62 rfl rfl rfl]
    rw [zs_goto (t := 15) zd_130_65 rfl]
    exact hk15 H
  · rw [if_neg c6] at H
    cases H
set_option maxRecDepth 20000 in
theorem zt_Machine_setFirst_36 {a b L N : Nat} {k15 : zS → Int32 → Option (zS)} (hk15 : ∀ {σ : zS} {τ : zT} {v1 : Int32} {o2 : Option Value} {r : zS}, k15 σ v1 = some r → zx_go 1 130 15 [some (.ref 35), some (.int v1), o2] [] ((119, a, b), zx_pk (zK L) 119, σ, τ, zR) = some (none, ((119, a, b), zx_pk (zK L) 119, r, τ, zR))) {σ : zS} {τ : zT} {v1 : Int32} {s0 : Int32} {o2 : Option Value} {r : zS} (H : zb_Machine_setFirst_36 k15 N σ v1 s0 = some r) : zx_go 1 130 36 [some (.ref 35), some (.int v1), o2] [.int s0] ((119, a, b), zx_pk (zK L) 119, σ, τ, zR) = some (none, ((119, a, b), zx_pk (zK L) 119, r, τ, zR)) := by
  unfold zb_Machine_setFirst_36 at H
  rw [zs_istore_n (x := s0) (ls' := [some (.ref 35), some (.int v1), some (.int s0)]) zd_130_36 (Nat.le_of_ble_eq_true rfl) rfl]
  rw [zs_aload_n (ls := [some (.ref 35), some (.int v1), some (.int s0)]) zd_130_37 rfl]
  rw [zs_getR (n := 119) (K := zx_pk (zK L) 119) (ρ := zR) (c := 2) (k := 0) (q := 35) (p := 4) zd_130_38 rfl rfl rfl (by decide) rfl]
  rw [zs_iload_n (ls := [some (.ref 35), some (.int v1), some (.int s0)]) zd_130_41 rfl]
  obtain ⟨r4, hr4, H⟩ := Option.bind_eq_some_iff.mp H
  rw [zp_callVi (x := r4) (st := [.int v1, .ref 4]) (as := [.ref 4, .int v1]) (rest := []) (e := 0) zd_130_42 rfl (by decide +kernel) (by decide) rfl rfl (Nat.le_of_ble_eq_true rfl) (zx_rcb_ok rfl (show 4 < 119 by decide)) (Nat.le_of_ble_eq_true rfl) rfl (by decide) (zt_Program_startersOf hr4)]
  by_cases c5 : r4 = 0
  · rw [if_pos c5] at H
    rw [zp_if_eq_t (x := r4) (t := 50) zd_130_45 rfl c5]
    exact zt_Machine_setFirst_50 (hk15 := hk15) H
  · rw [if_neg c5] at H
    rw [zp_if_eq_f (x := r4) (t := 50) zd_130_45 rfl c5]
    rw [zs_iconst (z := 0) zd_130_48 (by decide)]
    rw [zs_istore_n (x := 0) (ls' := [some (.ref 35), some (.int v1), some (.int 0)]) zd_130_49 (Nat.le_of_ble_eq_true rfl) rfl]
    exact zt_Machine_setFirst_50 (hk15 := hk15) H
set_option maxRecDepth 20000 in
theorem zt_Machine_setFirst_15 {a b L N : Nat} : ∀ {n : Nat} {σ : zS} {τ : zT} {v1 : Int32} {o2 : Option Value} {r : zS}, zb_Machine_setFirst_15 N n σ v1 = some r → zx_go 1 130 15 [some (.ref 35), some (.int v1), o2] [] ((119, a, b), zx_pk (zK L) 119, σ, τ, zR) = some (none, ((119, a, b), zx_pk (zK L) 119, r, τ, zR)) := by
  intro n
  induction n with
  | zero =>
    intro _ _ _ _ _ H
    cases H
  | succ n ih =>
    intro σ τ v1 o2 r H
    rw [zb_Machine_setFirst_15] at H
    rw [zs_iload_n (ls := [some (.ref 35), some (.int v1), o2]) zd_130_15 rfl]
    rw [zs_iconst (z := 4) zd_130_16 (by decide)]
    by_cases c1 : 4 ≤ v1
    · rw [if_pos c1] at H
      rw [zp_icmp_ge_t (x := v1) (y := 4) (t := 68) zd_130_17 rfl c1]
      have H := Option.some.inj H
      subst H
      exact zs_return zd_130_68 (by decide +kernel)
    · rw [if_neg c1] at H
      rw [zp_icmp_ge_f (x := v1) (y := 4) (t := 68) zd_130_17 rfl c1]
      rw [zs_aload_n (ls := [some (.ref 35), some (.int v1), o2]) zd_130_20 rfl]
      rw [zs_getR (n := 119) (K := zx_pk (zK L) 119) (ρ := zR) (c := 2) (k := 0) (q := 35) (p := 4) zd_130_21 rfl rfl rfl (by decide) rfl]
      rw [zs_iload_n (ls := [some (.ref 35), some (.int v1), o2]) zd_130_24 rfl]
      obtain ⟨r2, hr2, H⟩ := Option.bind_eq_some_iff.mp H
      rw [zp_callVi (x := r2) (st := [.int v1, .ref 4]) (as := [.ref 4, .int v1]) (rest := []) (e := 0) zd_130_25 rfl (by decide +kernel) (by decide) rfl rfl (Nat.le_of_ble_eq_true rfl) (zx_rcb_ok rfl (show 4 < 119 by decide)) (Nat.le_of_ble_eq_true rfl) rfl (by decide) (zt_Program_lengthOf hr2)]
      by_cases c3 : ¬ r2 = 0
      · rw [if_pos c3] at H
        rw [zp_if_ne_t (x := r2) (t := 35) zd_130_28 rfl c3]
        rw [zs_iconst (z := 1) zd_130_35 (by decide)]
        exact zt_Machine_setFirst_36 (hk15 := ih) H
      · rw [if_neg c3] at H
        rw [zp_if_ne_f (x := r2) (t := 35) zd_130_28 rfl c3]
        rw [zs_iconst (z := 4) zd_130_31 (by decide)]
        rw [zs_goto (t := 36) zd_130_32 rfl]
        exact zt_Machine_setFirst_36 (hk15 := ih) H
set_option maxRecDepth 20000 in
theorem zt_Machine_setFirst {a b L N : Nat} {σ : zS} {τ : zT} {r : zS} (H : zf_Machine_setFirst N σ = some r) : zx_go 1 130 0 [some (.ref 35), none, none] [] ((119, a, b), zx_pk (zK L) 119, σ, τ, zR) = some (none, ((119, a, b), zx_pk (zK L) 119, r, τ, zR)) := by
  unfold zf_Machine_setFirst at H
  rw [zs_aload_n (ls := [some (.ref 35), none, none]) zd_130_0 rfl]
  rw [zs_getR (n := 119) (K := zx_pk (zK L) 119) (ρ := zR) (c := 2) (k := 5) (q := 35) (p := 40) zd_130_1 rfl rfl rfl (by decide) rfl]
  rw [zs_iconst (z := 0) zd_130_4 (by decide)]
  rw [zs_aload_n (ls := [some (.ref 35), none, none]) zd_130_5 rfl]
  rw [zs_getR (n := 119) (K := zx_pk (zK L) 119) (ρ := zR) (c := 2) (k := 0) (q := 35) (p := 4) zd_130_6 rfl rfl rfl (by decide) rfl]
  rw [zp_getI (n := 119) (K := zx_pk (zK L) 119) (σ := σ) (c := 6) (k := 5) (q := 4) (v := (σ 4 5)) zd_130_9 rfl rfl rfl (by decide) rfl]
  rw [zp_iastore (n := 119) (K := zx_pk (zK L) 119) (q := 40) (m := 5) (i := 0) (k := 0) (x := (σ 4 5)) (z := (σ 4 5)) zd_130_12 rfl ⟨by decide, by decide⟩ (by decide) (by decide) rfl]
  rw [zs_iconst (z := 0) zd_130_13 (by decide)]
  rw [zs_istore_n (x := 0) (ls' := [some (.ref 35), some (.int 0), none]) zd_130_14 (Nat.le_of_ble_eq_true rfl) rfl]
  exact zt_Machine_setFirst_15  H
set_option maxRecDepth 20000 in
theorem zt_Space_has {a b L : Nat} {σ : zS} {τ : zT} {x1 : Int32} {r : Int32} (H : zf_Space_has σ x1 = some r) : zx_go 0 135 0 [some (.ref 41), some (.int x1)] [] ((119, a, b), zx_pk (zK L) 119, σ, τ, zR) = some (some (.int r), ((119, a, b), zx_pk (zK L) 119, σ, τ, zR)) := by
  unfold zf_Space_has at H
  rw [zs_iload_n (ls := [some (.ref 41), some (.int x1)]) zd_135_0 rfl]
  by_cases c1 : x1 < 0
  · rw [if_pos c1] at H
    rw [zp_if_lt_t (x := x1) (t := 23) zd_135_1 rfl c1]
    rw [zs_iconst (z := 0) zd_135_23 (by decide)]
    have H := Option.some.inj H
    subst H
    exact zs_ireturn zd_135_24 (by decide +kernel)
  · rw [if_neg c1] at H
    rw [zp_if_lt_f (x := x1) (t := 23) zd_135_1 rfl c1]
    rw [zs_iload_n (ls := [some (.ref 41), some (.int x1)]) zd_135_4 rfl]
    rw [zs_aload_n (ls := [some (.ref 41), some (.int x1)]) zd_135_5 rfl]
    rw [zp_getI (n := 119) (K := zx_pk (zK L) 119) (σ := σ) (c := 8) (k := 6) (q := 41) (v := (σ 41 6)) zd_135_6 rfl rfl rfl (by decide) rfl]
    by_cases c2 : (σ 41 6) ≤ x1
    · rw [if_pos c2] at H
      rw [zp_icmp_ge_t (x := x1) (y := (σ 41 6)) (t := 23) zd_135_9 rfl c2]
      rw [zs_iconst (z := 0) zd_135_23 (by decide)]
      have H := Option.some.inj H
      subst H
      exact zs_ireturn zd_135_24 (by decide +kernel)
    · rw [if_neg c2] at H
      rw [zp_icmp_ge_f (x := x1) (y := (σ 41 6)) (t := 23) zd_135_9 rfl c2]
      rw [zs_iload_n (ls := [some (.ref 41), some (.int x1)]) zd_135_12 rfl]
      rw [zs_sipush (z := 4000) zd_135_13 (by decide)]
      by_cases c3 : 4000 ≤ x1
      · rw [if_pos c3] at H
        rw [zp_icmp_ge_t (x := x1) (y := 4000) (t := 23) zd_135_16 rfl c3]
        rw [zs_iconst (z := 0) zd_135_23 (by decide)]
        have H := Option.some.inj H
        subst H
        exact zs_ireturn zd_135_24 (by decide +kernel)
      · rw [if_neg c3] at H
        rw [zp_icmp_ge_f (x := x1) (y := 4000) (t := 23) zd_135_16 rfl c3]
        rw [zs_iconst (z := 1) zd_135_19 (by decide)]
        rw [zs_goto (t := 24) zd_135_20 rfl]
        have H := Option.some.inj H
        subst H
        exact zs_ireturn zd_135_24 (by decide +kernel)
set_option maxRecDepth 20000 in
theorem zt_Space_isComing_2 {a b L N : Nat} : ∀ {n : Nat} {σ : zS} {τ : zT} {v1 : Int32} {v2 : Int32} {r : Int32}, zb_Space_isComing_2 N n σ v1 v2 = some r → zx_go 1 134 2 [some (.ref 41), some (.int v1), some (.int v2)] [] ((119, a, b), zx_pk (zK L) 119, σ, τ, zR) = some (some (.int r), ((119, a, b), zx_pk (zK L) 119, σ, τ, zR)) := by
  intro n
  induction n with
  | zero =>
    intro _ _ _ _ _ H
    cases H
  | succ n ih =>
    intro σ τ v1 v2 r H
    rw [zb_Space_isComing_2] at H
    rw [zs_iload_n (ls := [some (.ref 41), some (.int v1), some (.int v2)]) zd_134_2 rfl]
    rw [zs_iconst (z := 5) zd_134_3 (by decide)]
    by_cases c1 : 5 ≤ v2
    · rw [if_pos c1] at H
      rw [zp_icmp_ge_t (x := v2) (y := 5) (t := 45) zd_134_4 rfl c1]
      rw [zs_iconst (z := 1) zd_134_45 (by decide)]
      have H := Option.some.inj H
      subst H
      exact zs_ireturn zd_134_46 (by decide +kernel)
    · rw [if_neg c1] at H
      rw [zp_icmp_ge_f (x := v2) (y := 5) (t := 45) zd_134_4 rfl c1]
      rw [zs_aload_n (ls := [some (.ref 41), some (.int v1), some (.int v2)]) zd_134_7 rfl]
      rw [zs_iload_n (ls := [some (.ref 41), some (.int v1), some (.int v2)]) zd_134_8 rfl]
      obtain ⟨r2, hr2, H⟩ := Option.bind_eq_some_iff.mp H
      rw [zp_callVi (x := r2) (st := [.int v1, .ref 41]) (as := [.ref 41, .int v1]) (rest := []) (e := 0) zd_134_9 rfl (by decide +kernel) (by decide) rfl rfl (Nat.le_of_ble_eq_true rfl) (zx_rcb_ok rfl (show 41 < 119 by decide)) (Nat.le_of_ble_eq_true rfl) rfl (by decide) (zt_Space_has hr2)]
      by_cases c3 : r2 = 0
      · rw [if_pos c3] at H
        rw [zp_if_eq_t (x := r2) (t := 45) zd_134_12 rfl c3]
        rw [zs_iconst (z := 1) zd_134_45 (by decide)]
        have H := Option.some.inj H
        subst H
        exact zs_ireturn zd_134_46 (by decide +kernel)
      · rw [if_neg c3] at H
        rw [zp_if_eq_f (x := r2) (t := 45) zd_134_12 rfl c3]
        rw [zs_aload_n (ls := [some (.ref 41), some (.int v1), some (.int v2)]) zd_134_15 rfl]
        rw [zs_getR (n := 119) (K := zx_pk (zK L) 119) (ρ := zR) (c := 8) (k := 2) (q := 41) (p := 42) zd_134_16 rfl rfl rfl (by decide) rfl]
        rw [zs_iload_n (ls := [some (.ref 41), some (.int v1), some (.int v2)]) zd_134_19 rfl]
        rw [zs_iconst (z := 5) zd_134_20 (by decide)]
        rw [zp_imul (x := v1) (y := 5) (z := (v1 * 5)) zd_134_21 rfl]
        rw [zs_iload_n (ls := [some (.ref 41), some (.int v1), some (.int v2)]) zd_134_22 rfl]
        rw [zp_iadd (x := (v1 * 5)) (y := v2) (z := ((v1 * 5) + v2)) zd_134_23 rfl]
        by_cases c4 : 0 ≤ ((v1 * 5) + v2) ∧ ((v1 * 5) + v2) < 20000
        · rw [if_pos c4] at H
          rw [zp_iaload (n := 119) (K := zx_pk (zK L) 119) (σ := σ) (q := 42) (m := 20000) (i := ((v1 * 5) + v2)) (k := ((v1 * 5) + v2).toNatClampNeg) (v := (σ 42 ((v1 * 5) + v2).toNatClampNeg)) zd_134_24 rfl (by decide) (zJ_in c4 rfl) rfl rfl]
          rw [zs_aload_n (ls := [some (.ref 41), some (.int v1), some (.int v2)]) zd_134_25 rfl]
          rw [zs_getR (n := 119) (K := zx_pk (zK L) 119) (ρ := zR) (c := 8) (k := 1) (q := 41) (p := 35) zd_134_26 rfl rfl rfl (by decide) rfl]
          rw [zs_getR (n := 119) (K := zx_pk (zK L) 119) (ρ := zR) (c := 2) (k := 5) (q := 35) (p := 40) zd_134_29 rfl rfl rfl (by decide) rfl]
          rw [zs_iload_n (ls := [some (.ref 41), some (.int v1), some (.int v2)]) zd_134_32 rfl]
          by_cases c5 : 0 ≤ v2 ∧ v2 < 5
          · rw [if_pos c5] at H
            rw [zp_iaload (n := 119) (K := zx_pk (zK L) 119) (σ := σ) (q := 40) (m := 5) (i := v2) (k := v2.toNatClampNeg) (v := (σ 40 v2.toNatClampNeg)) zd_134_33 rfl (by decide) (zJ_in c5 rfl) rfl rfl]
            by_cases c6 : (σ 42 ((v1 * 5) + v2).toNatClampNeg) = (σ 40 v2.toNatClampNeg)
            · rw [if_pos c6] at H
              rw [zp_icmp_eq_t (x := (σ 42 ((v1 * 5) + v2).toNatClampNeg)) (y := (σ 40 v2.toNatClampNeg)) (t := 39) zd_134_34 rfl c6]
              rw [zs_iinc (ls := [some (.ref 41), some (.int v1), some (.int v2)]) (x := v2) (z := (v2 + 1)) (ls' := [some (.ref 41), some (.int v1), some (.int (v2 + 1))]) zd_134_39 rfl rfl rfl]
              rw [zs_goto (t := 2) zd_134_42 rfl]
              exact ih H
            · rw [if_neg c6] at H
              rw [zp_icmp_eq_f (x := (σ 42 ((v1 * 5) + v2).toNatClampNeg)) (y := (σ 40 v2.toNatClampNeg)) (t := 39) zd_134_34 rfl c6]
              rw [zs_iconst (z := 0) zd_134_37 (by decide)]
              have H := Option.some.inj H
              subst H
              exact zs_ireturn zd_134_38 (by decide +kernel)
          · rw [if_neg c5] at H
            cases H
        · rw [if_neg c4] at H
          cases H
set_option maxRecDepth 20000 in
theorem zt_Space_isComing {a b L N : Nat} {σ : zS} {τ : zT} {x1 : Int32} {r : Int32} (H : zf_Space_isComing N σ x1 = some r) : zx_go 1 134 0 [some (.ref 41), some (.int x1), none] [] ((119, a, b), zx_pk (zK L) 119, σ, τ, zR) = some (some (.int r), ((119, a, b), zx_pk (zK L) 119, σ, τ, zR)) := by
  unfold zf_Space_isComing at H
  rw [zs_iconst (z := 0) zd_134_0 (by decide)]
  rw [zs_istore_n (x := 0) (ls' := [some (.ref 41), some (.int x1), some (.int 0)]) zd_134_1 (Nat.le_of_ble_eq_true rfl) rfl]
  exact zt_Space_isComing_2  H
set_option maxRecDepth 20000 in
theorem zt_Space_slotOfComing_45 {a b L N : Nat} : ∀ {n : Nat} {σ : zS} {τ : zT} {v2 : Int32} {v3 : Int32} {o1 : Option Value} {r : Int32}, zb_Space_slotOfComing_45 N n σ v2 v3 = some r → zx_go 2 133 45 [some (.ref 41), o1, some (.int v2), some (.int v3)] [] ((119, a, b), zx_pk (zK L) 119, σ, τ, zR) = some (some (.int r), ((119, a, b), zx_pk (zK L) 119, σ, τ, zR)) := by
  intro n
  induction n with
  | zero =>
    intro _ _ _ _ _ _ H
    cases H
  | succ n ih =>
    intro σ τ v2 v3 o1 r H
    rw [zb_Space_slotOfComing_45] at H
    rw [zs_iload_n (ls := [some (.ref 41), o1, some (.int v2), some (.int v3)]) zd_133_45 rfl]
    rw [zs_sipush (z := 8192) zd_133_46 (by decide)]
    by_cases c2 : 8192 ≤ v3
    · rw [if_pos c2] at H
      rw [zp_icmp_ge_t (x := v3) (y := 8192) (t := 92) zd_133_49 rfl c2]
      rw [zs_iload_n (ls := [some (.ref 41), o1, some (.int v2), some (.int v3)]) zd_133_92 rfl]
      have H := Option.some.inj H
      subst H
      exact zs_ireturn zd_133_93 rfl
    · rw [if_neg c2] at H
      rw [zp_icmp_ge_f (x := v3) (y := 8192) (t := 92) zd_133_49 rfl c2]
      rw [zs_aload_n (ls := [some (.ref 41), o1, some (.int v2), some (.int v3)]) zd_133_52 rfl]
      rw [zs_getR (n := 119) (K := zx_pk (zK L) 119) (ρ := zR) (c := 8) (k := 5) (q := 41) (p := 45) zd_133_53 rfl rfl rfl (by decide) rfl]
      rw [zs_iload_n (ls := [some (.ref 41), o1, some (.int v2), some (.int v3)]) zd_133_56 rfl]
      by_cases c3 : 0 ≤ v2 ∧ v2 < 8192
      · rw [if_pos c3] at H
        rw [zp_iaload (n := 119) (K := zx_pk (zK L) 119) (σ := σ) (q := 45) (m := 8192) (i := v2) (k := v2.toNatClampNeg) (v := (σ 45 v2.toNatClampNeg)) zd_133_57 rfl (by decide) (zJ_in c3 rfl) rfl rfl]
        by_cases c4 : (σ 45 v2.toNatClampNeg) = 0
        · rw [if_pos c4] at H
          rw [zp_if_eq_t (x := (σ 45 v2.toNatClampNeg)) (t := 92) zd_133_58 rfl c4]
          rw [zs_iload_n (ls := [some (.ref 41), o1, some (.int v2), some (.int v3)]) zd_133_92 rfl]
          have H := Option.some.inj H
          subst H
          exact zs_ireturn zd_133_93 rfl
        · rw [if_neg c4] at H
          rw [zp_if_eq_f (x := (σ 45 v2.toNatClampNeg)) (t := 92) zd_133_58 rfl c4]
          rw [zs_aload_n (ls := [some (.ref 41), o1, some (.int v2), some (.int v3)]) zd_133_61 rfl]
          rw [zs_aload_n (ls := [some (.ref 41), o1, some (.int v2), some (.int v3)]) zd_133_62 rfl]
          rw [zs_getR (n := 119) (K := zx_pk (zK L) 119) (ρ := zR) (c := 8) (k := 5) (q := 41) (p := 45) zd_133_63 rfl rfl rfl (by decide) rfl]
          rw [zs_iload_n (ls := [some (.ref 41), o1, some (.int v2), some (.int v3)]) zd_133_66 rfl]
          by_cases c5 : 0 ≤ v2 ∧ v2 < 8192
          · rw [if_pos c5] at H
            rw [zp_iaload (n := 119) (K := zx_pk (zK L) 119) (σ := σ) (q := 45) (m := 8192) (i := v2) (k := v2.toNatClampNeg) (v := (σ 45 v2.toNatClampNeg)) zd_133_67 rfl (by decide) (zJ_in c5 rfl) rfl rfl]
            rw [zs_iconst (z := 1) zd_133_68 (by decide)]
            rw [zp_isub (x := (σ 45 v2.toNatClampNeg)) (y := 1) (z := ((σ 45 v2.toNatClampNeg) - 1)) zd_133_69 rfl]
            obtain ⟨r6, hr6, H⟩ := Option.bind_eq_some_iff.mp H
            rw [zp_callVi (x := r6) (st := [.int ((σ 45 v2.toNatClampNeg) - 1), .ref 41]) (as := [.ref 41, .int ((σ 45 v2.toNatClampNeg) - 1)]) (rest := []) (e := 1) zd_133_70 rfl (by decide +kernel) (by decide) rfl rfl (Nat.le_of_ble_eq_true rfl) (zx_rcb_ok rfl (show 41 < 119 by decide)) (Nat.le_of_ble_eq_true rfl) rfl (by decide) (zt_Space_isComing hr6)]
            by_cases c7 : r6 = 0
            · rw [if_pos c7] at H
              rw [zp_if_eq_t (x := r6) (t := 78) zd_133_73 rfl c7]
              rw [zs_iload_n (ls := [some (.ref 41), o1, some (.int v2), some (.int v3)]) zd_133_78 rfl]
              rw [zs_iconst (z := 1) zd_133_79 (by decide)]
              rw [zp_iadd (x := v2) (y := 1) (z := (v2 + 1)) zd_133_80 rfl]
              rw [zs_sipush (z := 8191) zd_133_81 (by decide)]
              rw [zp_iand (x := (v2 + 1)) (y := 8191) (z := ((v2 + 1) &&& 8191)) zd_133_84 rfl]
              rw [zs_istore_n (x := ((v2 + 1) &&& 8191)) (ls' := [some (.ref 41), (zJ_cl o1), some (.int ((v2 + 1) &&& 8191)), some (.int v3)]) zd_133_85 (Nat.le_of_ble_eq_true rfl) (zJ_s1 (k := 1) (o := o1) rfl)]
              rw [zs_iinc (ls := [some (.ref 41), (zJ_cl o1), some (.int ((v2 + 1) &&& 8191)), some (.int v3)]) (x := v3) (z := (v3 + 1)) (ls' := [some (.ref 41), (zJ_cl o1), some (.int ((v2 + 1) &&& 8191)), some (.int (v3 + 1))]) zd_133_86 rfl rfl rfl]
              rw [zs_goto (t := 45) zd_133_89 rfl]
              exact ih H
            · rw [if_neg c7] at H
              rw [zp_if_eq_f (x := r6) (t := 78) zd_133_73 rfl c7]
              rw [zs_iload_n (ls := [some (.ref 41), o1, some (.int v2), some (.int v3)]) zd_133_76 rfl]
              have H := Option.some.inj H
              subst H
              exact zs_ireturn zd_133_77 rfl
          · rw [if_neg c5] at H
            cases H
      · rw [if_neg c3] at H
        cases H
