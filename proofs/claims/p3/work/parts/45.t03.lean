/-! theorems of the functions, by program -/
set_option maxRecDepth 20000 in
theorem zt_M_assign_36 {a b L N : Nat} {σ : zS} {τ : zT} {v1 : Int32} {s0 : Int32} {o2 : Option Value} {o3 : Option Value} {o4 : Option Value} {r : zS} (H : zb_M_assign_36 N σ v1 s0 = some r) : zx_go 4 113 36 [some (.ref 82), some (.int v1), o2, o3, o4] [.int s0] ((119, a, b), zx_pk (zK L) 119, σ, τ, zR) = some (none, ((119, a, b), zx_pk (zK L) 119, r, τ, zR)) := by
  unfold zb_M_assign_36 at H
  rw [zs_istore_n (x := s0) (ls' := [some (.ref 82), some (.int v1), some (.int s0), o3, o4]) zd_113_36 (Nat.le_of_ble_eq_true rfl) rfl]
  rw [zs_aload_n (ls := [some (.ref 82), some (.int v1), some (.int s0), o3, o4]) zd_113_37 rfl]
  rw [zp_getZ (n := 119) (K := zx_pk (zK L) 119) (σ := σ) (c := 12) (k := 9) (q := 82) (v := (σ 82 9)) zd_113_38 rfl rfl rfl (by decide) rfl]
  by_cases c4 : (σ 82 9) = 0
  · rw [if_pos c4] at H
    rw [zp_if_eq_t (x := (σ 82 9)) (t := 45) zd_113_41 rfl c4]
    rw [zs_aload_n (ls := [some (.ref 82), some (.int v1), some (.int s0), o3, o4]) zd_113_45 rfl]
    rw [zs_iload_n (ls := [some (.ref 82), some (.int v1), some (.int s0), o3, o4]) zd_113_46 rfl]
    rw [zs_iconst (z := (-1)) zd_113_47 (by decide)]
    by_cases c5 : ¬ v1 = (-1)
    · rw [if_pos c5] at H
      rw [zp_icmp_ne_t (x := v1) (y := (-1)) (t := 55) zd_113_48 rfl c5]
      rw [zs_iconst (z := 1) zd_113_55 (by decide)]
      exact zt_M_assign_56  H
    · rw [if_neg c5] at H
      rw [zp_icmp_ne_f (x := v1) (y := (-1)) (t := 55) zd_113_48 rfl c5]
      rw [zs_iconst (z := 2) zd_113_51 (by decide)]
      rw [zs_goto (t := 56) zd_113_52 rfl]
      exact zt_M_assign_56  H
  · rw [if_neg c4] at H
    rw [zp_if_eq_f (x := (σ 82 9)) (t := 45) zd_113_41 rfl c4]
    have H := Option.some.inj H
    subst H
    exact zs_return zd_113_44 (by decide +kernel)
set_option maxRecDepth 20000 in
theorem zt_M_assign_22 {a b L N : Nat} {σ : zS} {τ : zT} {v1 : Int32} {o2 : Option Value} {o3 : Option Value} {o4 : Option Value} {r : zS} (H : zb_M_assign_22 N σ v1 = some r) : zx_go 4 113 22 [some (.ref 82), some (.int v1), o2, o3, o4] [] ((119, a, b), zx_pk (zK L) 119, σ, τ, zR) = some (none, ((119, a, b), zx_pk (zK L) 119, r, τ, zR)) := by
  unfold zb_M_assign_22 at H
  rw [zs_iload_n (ls := [some (.ref 82), some (.int v1), o2, o3, o4]) zd_113_22 rfl]
  rw [zs_iconst (z := (-1)) zd_113_23 (by decide)]
  by_cases c3 : ¬ v1 = (-1)
  · rw [if_pos c3] at H
    rw [zp_icmp_ne_t (x := v1) (y := (-1)) (t := 35) zd_113_24 rfl c3]
    rw [zs_iconst (z := 0) zd_113_35 (by decide)]
    exact zt_M_assign_36  H
  · rw [if_neg c3] at H
    rw [zp_icmp_ne_f (x := v1) (y := (-1)) (t := 35) zd_113_24 rfl c3]
    rw [zs_aload_n (ls := [some (.ref 82), some (.int v1), o2, o3, o4]) zd_113_27 rfl]
    rw [zs_iconst (z := 1) zd_113_28 (by decide)]
    obtain ⟨r34, hr34, H⟩ := Option.bind_eq_some_iff.mp H
    rw [zp_callVi (x := r34.1) (st := [.int 1, .ref 82]) (as := [.ref 82, .int 1]) (rest := []) (e := 1) zd_113_29 rfl (by decide +kernel) (by decide) rfl rfl (Nat.le_of_ble_eq_true rfl) (zx_rcb_ok rfl (show 82 < 119 by decide)) (Nat.le_of_ble_eq_true rfl) rfl (by decide) (zt_M_local hr34)]
    rw [zs_goto (t := 36) zd_113_32 rfl]
    exact zt_M_assign_36  H
set_option maxRecDepth 20000 in
theorem zt_M_assign {a b L N : Nat} {σ : zS} {τ : zT} {r : zS} (H : zf_M_assign N σ = some r) : zx_go 4 113 0 [some (.ref 82), none, none, none, none] [] ((119, a, b), zx_pk (zK L) 119, σ, τ, zR) = some (none, ((119, a, b), zx_pk (zK L) 119, r, τ, zR)) := by
  unfold zf_M_assign at H
  rw [zs_aload_n (ls := [some (.ref 82), none, none, none, none]) zd_113_0 rfl]
  obtain ⟨r1, hr1, H⟩ := Option.bind_eq_some_iff.mp H
  rw [zp_callVi (x := r1) (st := [.ref 82]) (as := [.ref 82]) (rest := []) (e := 1) zd_113_1 rfl (by decide +kernel) (by decide) rfl rfl (Nat.le_of_ble_eq_true rfl) (zx_rcb_ok rfl (show 82 < 119 by decide)) (Nat.le_of_ble_eq_true rfl) rfl (by decide) (zt_M_fieldHere hr1)]
  rw [zs_istore_n (x := r1) (ls' := [some (.ref 82), some (.int r1), none, none, none]) zd_113_4 (Nat.le_of_ble_eq_true rfl) rfl]
  rw [zs_iload_n (ls := [some (.ref 82), some (.int r1), none, none, none]) zd_113_5 rfl]
  rw [zs_iconst (z := (-1)) zd_113_6 (by decide)]
  by_cases c2 : ¬ r1 = (-1)
  · rw [if_pos c2] at H
    rw [zp_icmp_ne_t (x := r1) (y := (-1)) (t := 22) zd_113_7 rfl c2]
    exact zt_M_assign_22  H
  · rw [if_neg c2] at H
    rw [zp_icmp_ne_f (x := r1) (y := (-1)) (t := 22) zd_113_7 rfl c2]
    rw [zs_aload_n (ls := [some (.ref 82), some (.int r1), none, none, none]) zd_113_10 rfl]
    obtain ⟨r35, hr35, H⟩ := Option.bind_eq_some_iff.mp H
    rw [zp_callVi (x := r35) (st := [.ref 82]) (as := [.ref 82]) (rest := []) (e := 2) zd_113_11 rfl (by decide +kernel) (by decide) rfl rfl (Nat.le_of_ble_eq_true rfl) (zx_rcb_ok rfl (show 82 < 119 by decide)) (Nat.le_of_ble_eq_true rfl) rfl (by decide) (zt_M_isTold hr35)]
    by_cases c36 : r35 = 0
    · rw [if_pos c36] at H
      rw [zp_if_eq_t (x := r35) (t := 22) zd_113_14 rfl c36]
      exact zt_M_assign_22  H
    · rw [if_neg c36] at H
      rw [zp_if_eq_f (x := r35) (t := 22) zd_113_14 rfl c36]
      rw [zs_aload_n (ls := [some (.ref 82), some (.int r1), none, none, none]) zd_113_17 rfl]
      obtain ⟨r37, hr37, H⟩ := Option.bind_eq_some_iff.mp H
      rw [zp_callVv (st := [.ref 82]) (as := [.ref 82]) (rest := []) (e := 1) zd_113_18 rfl (by decide +kernel) (by decide) rfl rfl (Nat.le_of_ble_eq_true rfl) (zx_rcb_ok rfl (show 82 < 119 by decide)) (Nat.le_of_ble_eq_true rfl) rfl (by decide) (zt_M_cannot hr37)]
      have H := Option.some.inj H
      subst H
      exact zs_return zd_113_21 (by decide +kernel)
set_option maxRecDepth 20000 in
theorem zt_M_statement_402 {a b L N : Nat} {σ : zS} {τ : zT} {v1 : Int32} {s0 : Int32} {o2 : Option Value} {r : zS} (H : zb_M_statement_402 N σ v1 s0 = some r) : zx_go 5 112 402 [some (.ref 82), some (.int v1), o2] [.int s0, .ref 82] ((119, a, b), zx_pk (zK L) 119, σ, τ, zR) = some (none, ((119, a, b), zx_pk (zK L) 119, r, τ, zR)) := by
  unfold zb_M_statement_402 at H
  rw [zs_iconst (z := 0) zd_112_402 (by decide)]
  obtain ⟨r32, hr32, H⟩ := Option.bind_eq_some_iff.mp H
  rw [zp_callVi (x := r32.1) (st := [.int 0, .int s0, .ref 82]) (as := [.ref 82, .int s0, .int 0]) (rest := []) (e := 1) zd_112_403 rfl (by decide +kernel) (by decide) rfl rfl (Nat.le_of_ble_eq_true rfl) (zx_rcb_ok rfl (show 82 < 119 by decide)) (Nat.le_of_ble_eq_true rfl) rfl (by decide) (zt_M_addStep hr32)]
  rw [zs_istore_n (x := r32.1) (ls' := [some (.ref 82), some (.int v1), some (.int r32.1)]) zd_112_406 (Nat.le_of_ble_eq_true rfl) rfl]
  rw [zs_aload_n (ls := [some (.ref 82), some (.int v1), some (.int r32.1)]) zd_112_407 rfl]
  obtain ⟨r33, hr33, H⟩ := Option.bind_eq_some_iff.mp H
  rw [zp_callVv (st := [.ref 82]) (as := [.ref 82]) (rest := []) (e := 3) zd_112_408 rfl (by decide +kernel) (by decide) rfl rfl (Nat.le_of_ble_eq_true rfl) (zx_rcb_ok rfl (show 82 < 119 by decide)) (Nat.le_of_ble_eq_true rfl) rfl (by decide) (zt_M_nextIfWell hr33)]
  rw [zs_aload_n (ls := [some (.ref 82), some (.int v1), some (.int r32.1)]) zd_112_411 rfl]
  rw [zs_getR (n := 119) (K := zx_pk (zK L) 119) (ρ := zR) (c := 12) (k := 28) (q := 82) (p := 93) zd_112_412 rfl rfl rfl (by decide) rfl]
  rw [zs_iload_n (ls := [some (.ref 82), some (.int v1), some (.int r32.1)]) zd_112_415 rfl]
  rw [zs_iload_n (ls := [some (.ref 82), some (.int v1), some (.int r32.1)]) zd_112_416 rfl]
  rw [zp_iadd (x := v1) (y := r32.1) (z := (v1 + r32.1)) zd_112_417 rfl]
  rw [zs_aload_n (ls := [some (.ref 82), some (.int v1), some (.int r32.1)]) zd_112_418 rfl]
  obtain ⟨r34, hr34, H⟩ := Option.bind_eq_some_iff.mp H
  rw [zp_callVi (x := r34.1) (st := [.ref 82, .int (v1 + r32.1), .ref 93]) (as := [.ref 82]) (rest := [.int (v1 + r32.1), .ref 93]) (e := 3) zd_112_419 rfl (by decide +kernel) (by decide) rfl rfl (Nat.le_of_ble_eq_true rfl) (zx_rcb_ok rfl (show 82 < 119 by decide)) (Nat.le_of_ble_eq_true rfl) rfl (by decide) (zt_M_threadNamed hr34)]
  by_cases c35 : 0 ≤ (v1 + r32.1) ∧ (v1 + r32.1) < 96
  · rw [if_pos c35] at H
    rw [zp_iastore (n := 119) (K := zx_pk (zK L) 119) (q := 93) (m := 96) (i := (v1 + r32.1)) (k := (v1 + r32.1).toNatClampNeg) (x := r34.1) (z := r34.1) zd_112_422 rfl ⟨by decide, by decide⟩ (zJ_in c35 rfl) rfl rfl]
    rw [zs_aload_n (ls := [some (.ref 82), some (.int v1), some (.int r32.1)]) zd_112_423 rfl]
    rw [zs_bipush (z := 59) zd_112_424 (by decide)]
    obtain ⟨r36, hr36, H⟩ := Option.bind_eq_some_iff.mp H
    rw [zp_callVv (st := [.int 59, .ref 82]) (as := [.ref 82, .int 59]) (rest := []) (e := 3) zd_112_426 rfl (by decide +kernel) (by decide) rfl rfl (Nat.le_of_ble_eq_true rfl) (zx_rcb_ok rfl (show 82 < 119 by decide)) (Nat.le_of_ble_eq_true rfl) rfl (by decide) (zt_M_take hr36)]
    rw [zs_goto (t := 483) zd_112_429 rfl]
    have H := Option.some.inj H
    subst H
    exact zs_return zd_112_483 (by decide +kernel)
  · rw [if_neg c35] at H
    cases H
set_option maxRecDepth 20000 in
theorem zt_M_statement_364 {a b L N : Nat} {σ : zS} {τ : zT} {v1 : Int32} {v2 : Int32} {r : zS} (H : zb_M_statement_364 N σ v1 v2 = some r) : zx_go 5 112 364 [some (.ref 82), some (.int v1), some (.int v2)] [] ((119, a, b), zx_pk (zK L) 119, σ, τ, zR) = some (none, ((119, a, b), zx_pk (zK L) 119, r, τ, zR)) := by
  unfold zb_M_statement_364 at H
  rw [zs_aload_n (ls := [some (.ref 82), some (.int v1), some (.int v2)]) zd_112_364 rfl]
  rw [zs_getR (n := 119) (K := zx_pk (zK L) 119) (ρ := zR) (c := 12) (k := 28) (q := 82) (p := 93) zd_112_365 rfl rfl rfl (by decide) rfl]
  rw [zs_iload_n (ls := [some (.ref 82), some (.int v1), some (.int v2)]) zd_112_368 rfl]
  rw [zs_iload_n (ls := [some (.ref 82), some (.int v1), some (.int v2)]) zd_112_369 rfl]
  rw [zp_iadd (x := v1) (y := v2) (z := (v1 + v2)) zd_112_370 rfl]
  rw [zs_aload_n (ls := [some (.ref 82), some (.int v1), some (.int v2)]) zd_112_371 rfl]
  obtain ⟨r42, hr42, H⟩ := Option.bind_eq_some_iff.mp H
  rw [zp_callVi (x := r42.1) (st := [.ref 82, .int (v1 + v2), .ref 93]) (as := [.ref 82]) (rest := [.int (v1 + v2), .ref 93]) (e := 3) zd_112_372 rfl (by decide +kernel) (by decide) rfl rfl (Nat.le_of_ble_eq_true rfl) (zx_rcb_ok rfl (show 82 < 119 by decide)) (Nat.le_of_ble_eq_true rfl) rfl (by decide) (zt_M_lockNamed hr42)]
  by_cases c43 : 0 ≤ (v1 + v2) ∧ (v1 + v2) < 96
  · rw [if_pos c43] at H
    rw [zp_iastore (n := 119) (K := zx_pk (zK L) 119) (q := 93) (m := 96) (i := (v1 + v2)) (k := (v1 + v2).toNatClampNeg) (x := r42.1) (z := r42.1) zd_112_375 rfl ⟨by decide, by decide⟩ (zJ_in c43 rfl) rfl rfl]
    rw [zs_aload_n (ls := [some (.ref 82), some (.int v1), some (.int v2)]) zd_112_376 rfl]
    rw [zs_bipush (z := 59) zd_112_377 (by decide)]
    obtain ⟨r44, hr44, H⟩ := Option.bind_eq_some_iff.mp H
    rw [zp_callVv (st := [.int 59, .ref 82]) (as := [.ref 82, .int 59]) (rest := []) (e := 3) zd_112_379 rfl (by decide +kernel) (by decide) rfl rfl (Nat.le_of_ble_eq_true rfl) (zx_rcb_ok rfl (show 82 < 119 by decide)) (Nat.le_of_ble_eq_true rfl) rfl (by decide) (zt_M_take hr44)]
    rw [zs_goto (t := 483) zd_112_382 rfl]
    have H := Option.some.inj H
    subst H
    exact zs_return zd_112_483 (by decide +kernel)
  · rw [if_neg c43] at H
    cases H
set_option maxRecDepth 20000 in
theorem zt_M_statement_153 {a b L N : Nat} {σ : zS} {τ : zT} {v2 : Int32} {o1 : Option Value} {r : zS} (H : zb_M_statement_153 N σ v2 = some r) : zx_go 5 112 153 [some (.ref 82), o1, some (.int v2)] [] ((119, a, b), zx_pk (zK L) 119, σ, τ, zR) = some (none, ((119, a, b), zx_pk (zK L) 119, r, τ, zR)) := by
  unfold zb_M_statement_153 at H
  rw [zs_aload_n (ls := [some (.ref 82), o1, some (.int v2)]) zd_112_153 rfl]
  rw [zs_iconst (z := 1) zd_112_154 (by decide)]
  rw [zs_iload_n (ls := [some (.ref 82), o1, some (.int v2)]) zd_112_155 rfl]
  obtain ⟨r69, hr69, H⟩ := Option.bind_eq_some_iff.mp H
  rw [zp_callVv (st := [.int v2, .int 1, .ref 82]) (as := [.ref 82, .int 1, .int v2]) (rest := []) (e := 3) zd_112_156 rfl (by decide +kernel) (by decide) rfl rfl (Nat.le_of_ble_eq_true rfl) (zx_rcb_ok rfl (show 82 < 119 by decide)) (Nat.le_of_ble_eq_true rfl) rfl (by decide) (zt_M_openBlock hr69)]
  rw [zs_goto (t := 483) zd_112_159 rfl]
  have H := Option.some.inj H
  subst H
  exact zs_return zd_112_483 (by decide +kernel)
set_option maxRecDepth 20000 in
theorem zt_M_statement {a b L N : Nat} {σ : zS} {τ : zT} {r : zS} (H : zf_M_statement N σ = some r) : zx_go 5 112 0 [some (.ref 82), none, none] [] ((119, a, b), zx_pk (zK L) 119, σ, τ, zR) = some (none, ((119, a, b), zx_pk (zK L) 119, r, τ, zR)) := by
  unfold zf_M_statement at H
  rw [zs_bipush (z := 24) zd_112_0 (by decide)]
  rw [zs_aload_n (ls := [some (.ref 82), none, none]) zd_112_2 rfl]
  rw [zp_getI (n := 119) (K := zx_pk (zK L) 119) (σ := σ) (c := 12) (k := 39) (q := 82) (v := (σ 82 39)) zd_112_3 rfl rfl rfl (by decide) rfl]
  rw [zp_imul (x := 24) (y := (σ 82 39)) (z := (24 * (σ 82 39))) zd_112_6 rfl]
  rw [zs_istore_n (x := (24 * (σ 82 39))) (ls' := [some (.ref 82), some (.int (24 * (σ 82 39))), none]) zd_112_7 (Nat.le_of_ble_eq_true rfl) rfl]
  rw [zs_aload_n (ls := [some (.ref 82), some (.int (24 * (σ 82 39))), none]) zd_112_8 rfl]
  rw [zp_getI (n := 119) (K := zx_pk (zK L) 119) (σ := σ) (c := 12) (k := 7) (q := 82) (v := (σ 82 7)) zd_112_9 rfl rfl rfl (by decide) rfl]
  rw [zs_iconst (z := 2) zd_112_12 (by decide)]
  by_cases c1 : ¬ (σ 82 7) = 2
  · rw [if_pos c1] at H
    rw [zp_icmp_ne_t (x := (σ 82 7)) (y := 2) (t := 21) zd_112_13 rfl c1]
    rw [zs_aload_n (ls := [some (.ref 82), some (.int (24 * (σ 82 39))), none]) zd_112_21 rfl]
    rw [zp_getI (n := 119) (K := zx_pk (zK L) 119) (σ := σ) (c := 12) (k := 7) (q := 82) (v := (σ 82 7)) zd_112_22 rfl rfl rfl (by decide) rfl]
    rw [zs_iconst (z := 5) zd_112_25 (by decide)]
    by_cases c2 : (σ 82 7) = 5
    · rw [if_pos c2] at H
      rw [zp_icmp_eq_t (x := (σ 82 7)) (y := 5) (t := 34) zd_112_26 rfl c2]
      rw [zs_aload_n (ls := [some (.ref 82), some (.int (24 * (σ 82 39))), none]) zd_112_34 rfl]
      rw [zp_getI (n := 119) (K := zx_pk (zK L) 119) (σ := σ) (c := 12) (k := 8) (q := 82) (v := (σ 82 8)) zd_112_35 rfl rfl rfl (by decide) rfl]
      by_cases c3 : (σ 82 8) = 3
      · rw [if_pos c3] at H
        rw [zs_table (x := (σ 82 8)) (off := 66) (t := 104) zd_112_38 (by rw [c3]; decide) rfl]
        rw [zs_aload_n (ls := [some (.ref 82), some (.int (24 * (σ 82 39))), none]) zd_112_104 rfl]
        rw [zs_iconst (z := 3) zd_112_105 (by decide)]
        rw [zs_iconst (z := 0) zd_112_106 (by decide)]
        obtain ⟨r64, hr64, H⟩ := Option.bind_eq_some_iff.mp H
        rw [zp_callVi (x := r64.1) (st := [.int 0, .int 3, .ref 82]) (as := [.ref 82, .int 3, .int 0]) (rest := []) (e := 1) zd_112_107 rfl (by decide +kernel) (by decide) rfl rfl (Nat.le_of_ble_eq_true rfl) (zx_rcb_ok rfl (show 82 < 119 by decide)) (Nat.le_of_ble_eq_true rfl) rfl (by decide) (zt_M_addStep hr64)]
        rw [zs_istore_n (x := r64.1) (ls' := [some (.ref 82), some (.int (24 * (σ 82 39))), some (.int r64.1)]) zd_112_110 (Nat.le_of_ble_eq_true rfl) rfl]
        rw [zs_aload_n (ls := [some (.ref 82), some (.int (24 * (σ 82 39))), some (.int r64.1)]) zd_112_111 rfl]
        obtain ⟨r65, hr65, H⟩ := Option.bind_eq_some_iff.mp H
        rw [zp_callVv (st := [.ref 82]) (as := [.ref 82]) (rest := []) (e := 3) zd_112_112 rfl (by decide +kernel) (by decide) rfl rfl (Nat.le_of_ble_eq_true rfl) (zx_rcb_ok rfl (show 82 < 119 by decide)) (Nat.le_of_ble_eq_true rfl) rfl (by decide) (zt_M_nextIfWell hr65)]
        rw [zs_aload_n (ls := [some (.ref 82), some (.int (24 * (σ 82 39))), some (.int r64.1)]) zd_112_115 rfl]
        rw [zs_getR (n := 119) (K := zx_pk (zK L) 119) (ρ := zR) (c := 12) (k := 28) (q := 82) (p := 93) zd_112_116 rfl rfl rfl (by decide) rfl]
        rw [zs_iload_n (ls := [some (.ref 82), some (.int (24 * (σ 82 39))), some (.int r64.1)]) zd_112_119 rfl]
        rw [zs_iload_n (ls := [some (.ref 82), some (.int (24 * (σ 82 39))), some (.int r64.1)]) zd_112_120 rfl]
        rw [zp_iadd (x := (24 * (σ 82 39))) (y := r64.1) (z := ((24 * (σ 82 39)) + r64.1)) zd_112_121 rfl]
        rw [zs_aload_n (ls := [some (.ref 82), some (.int (24 * (σ 82 39))), some (.int r64.1)]) zd_112_122 rfl]
        obtain ⟨r66, hr66, H⟩ := Option.bind_eq_some_iff.mp H
        rw [zp_callVi (x := r66.1) (st := [.ref 82, .int ((24 * (σ 82 39)) + r64.1), .ref 93]) (as := [.ref 82]) (rest := [.int ((24 * (σ 82 39)) + r64.1), .ref 93]) (e := 3) zd_112_123 rfl (by decide +kernel) (by decide) rfl rfl (Nat.le_of_ble_eq_true rfl) (zx_rcb_ok rfl (show 82 < 119 by decide)) (Nat.le_of_ble_eq_true rfl) rfl (by decide) (zt_M_lockNamed hr66)]
        by_cases c67 : 0 ≤ ((24 * (σ 82 39)) + r64.1) ∧ ((24 * (σ 82 39)) + r64.1) < 96
        · rw [if_pos c67] at H
          rw [zp_iastore (n := 119) (K := zx_pk (zK L) 119) (q := 93) (m := 96) (i := ((24 * (σ 82 39)) + r64.1)) (k := ((24 * (σ 82 39)) + r64.1).toNatClampNeg) (x := r66.1) (z := r66.1) zd_112_126 rfl ⟨by decide, by decide⟩ (zJ_in c67 rfl) rfl rfl]
          rw [zs_aload_n (ls := [some (.ref 82), some (.int (24 * (σ 82 39))), some (.int r64.1)]) zd_112_127 rfl]
          rw [zp_getZ (n := 119) (K := zx_pk (zK L) 119) (σ := (zx_up r66.2 93 ((24 * (σ 82 39)) + r64.1).toNatClampNeg r66.1)) (c := 12) (k := 9) (q := 82) (v := (r66.2 82 9)) zd_112_128 rfl rfl rfl (by decide) (show ((zx_up r66.2 93 ((24 * (σ 82 39)) + r64.1).toNatClampNeg r66.1) : zS) 82 9 = (r66.2 82 9) from ((zx_up_ne (by decide)).trans rfl))]
          by_cases c68 : ¬ (r66.2 82 9) = 0
          · rw [if_pos c68] at H
            rw [zp_if_ne_t (x := (r66.2 82 9)) (t := 153) zd_112_131 rfl c68]
            exact zt_M_statement_153  H
          · rw [if_neg c68] at H
            rw [zp_if_ne_f (x := (r66.2 82 9)) (t := 153) zd_112_131 rfl c68]
            rw [zs_aload_n (ls := [some (.ref 82), some (.int (24 * (σ 82 39))), some (.int r64.1)]) zd_112_134 rfl]
            rw [zs_aload_n (ls := [some (.ref 82), some (.int (24 * (σ 82 39))), some (.int r64.1)]) zd_112_135 rfl]
            rw [zp_getI (n := 119) (K := zx_pk (zK L) 119) (σ := (zx_up r66.2 93 ((24 * (σ 82 39)) + r64.1).toNatClampNeg r66.1)) (c := 12) (k := 40) (q := 82) (v := (r66.2 82 40)) zd_112_136 rfl rfl rfl (by decide) (show ((zx_up r66.2 93 ((24 * (σ 82 39)) + r64.1).toNatClampNeg r66.1) : zS) 82 40 = (r66.2 82 40) from ((zx_up_ne (by decide)).trans rfl))]
            rw [zs_iconst (z := 1) zd_112_139 (by decide)]
            rw [zs_aload_n (ls := [some (.ref 82), some (.int (24 * (σ 82 39))), some (.int r64.1)]) zd_112_140 rfl]
            rw [zs_getR (n := 119) (K := zx_pk (zK L) 119) (ρ := zR) (c := 12) (k := 28) (q := 82) (p := 93) zd_112_141 rfl rfl rfl (by decide) rfl]
            rw [zs_iload_n (ls := [some (.ref 82), some (.int (24 * (σ 82 39))), some (.int r64.1)]) zd_112_144 rfl]
            rw [zs_iload_n (ls := [some (.ref 82), some (.int (24 * (σ 82 39))), some (.int r64.1)]) zd_112_145 rfl]
            rw [zp_iadd (x := (24 * (σ 82 39))) (y := r64.1) (z := ((24 * (σ 82 39)) + r64.1)) zd_112_146 rfl]
            by_cases c70 : 0 ≤ ((24 * (σ 82 39)) + r64.1) ∧ ((24 * (σ 82 39)) + r64.1) < 96
            · rw [if_pos c70] at H
              rw [zp_iaload (n := 119) (K := zx_pk (zK L) 119) (σ := (zx_up r66.2 93 ((24 * (σ 82 39)) + r64.1).toNatClampNeg r66.1)) (q := 93) (m := 96) (i := ((24 * (σ 82 39)) + r64.1)) (k := ((24 * (σ 82 39)) + r64.1).toNatClampNeg) (v := r66.1) zd_112_147 rfl (by decide) (zJ_in c70 rfl) rfl (show ((zx_up r66.2 93 ((24 * (σ 82 39)) + r64.1).toNatClampNeg r66.1) : zS) 93 ((24 * (σ 82 39)) + r64.1).toNatClampNeg = r66.1 from zx_up_at)]
              rw [zp_ishl (x := 1) (y := r66.1) (z := (zJ_shl 1 r66.1)) zd_112_148 rfl]
              rw [zp_ior (x := (r66.2 82 40)) (y := (zJ_shl 1 r66.1)) (z := ((r66.2 82 40) ||| (zJ_shl 1 r66.1))) zd_112_149 rfl]
              rw [zs_putI (n := 119) (K := zx_pk (zK L) 119) (c := 12) (k := 40) (q := 82) (x := ((r66.2 82 40) ||| (zJ_shl 1 r66.1))) zd_112_150 rfl rfl (by decide +kernel) rfl (by decide)]
              exact zt_M_statement_153  H
            · rw [if_neg c70] at H
              cases H
        · rw [if_neg c67] at H
          cases H
      · rw [if_neg c3] at H
        by_cases c4 : (σ 82 8) = 4
        · rw [if_pos c4] at H
          rw [zs_table (x := (σ 82 8)) (off := 441) (t := 479) zd_112_38 (by rw [c4]; decide) rfl]
          rw [zs_aload_n (ls := [some (.ref 82), some (.int (24 * (σ 82 39))), none]) zd_112_479 rfl]
          obtain ⟨r63, hr63, H⟩ := Option.bind_eq_some_iff.mp H
          rw [zp_callVv (st := [.ref 82]) (as := [.ref 82]) (rest := []) (e := 1) zd_112_480 rfl (by decide +kernel) (by decide) rfl rfl (Nat.le_of_ble_eq_true rfl) (zx_rcb_ok rfl (show 82 < 119 by decide)) (Nat.le_of_ble_eq_true rfl) rfl (by decide) (zt_M_cannot hr63)]
          have H := Option.some.inj H
          subst H
          exact zs_return zd_112_483 (by decide +kernel)
        · rw [if_neg c4] at H
          by_cases c5 : (σ 82 8) = 5
          · rw [if_pos c5] at H
            rw [zs_table (x := (σ 82 8)) (off := 200) (t := 238) zd_112_38 (by rw [c5]; decide) rfl]
            rw [zs_aload_n (ls := [some (.ref 82), some (.int (24 * (σ 82 39))), none]) zd_112_238 rfl]
            rw [zs_iconst (z := 5) zd_112_239 (by decide)]
            rw [zs_iconst (z := (-1)) zd_112_240 (by decide)]
            obtain ⟨r59, hr59, H⟩ := Option.bind_eq_some_iff.mp H
            rw [zp_callVi (x := r59.1) (st := [.int (-1), .int 5, .ref 82]) (as := [.ref 82, .int 5, .int (-1)]) (rest := []) (e := 1) zd_112_241 rfl (by decide +kernel) (by decide) rfl rfl (Nat.le_of_ble_eq_true rfl) (zx_rcb_ok rfl (show 82 < 119 by decide)) (Nat.le_of_ble_eq_true rfl) rfl (by decide) (zt_M_addStep hr59)]
            rw [zs_istore_n (x := r59.1) (ls' := [some (.ref 82), some (.int (24 * (σ 82 39))), some (.int r59.1)]) zd_112_244 (Nat.le_of_ble_eq_true rfl) rfl]
            rw [zs_aload_n (ls := [some (.ref 82), some (.int (24 * (σ 82 39))), some (.int r59.1)]) zd_112_245 rfl]
            obtain ⟨r60, hr60, H⟩ := Option.bind_eq_some_iff.mp H
            rw [zp_callVv (st := [.ref 82]) (as := [.ref 82]) (rest := []) (e := 3) zd_112_246 rfl (by decide +kernel) (by decide) rfl rfl (Nat.le_of_ble_eq_true rfl) (zx_rcb_ok rfl (show 82 < 119 by decide)) (Nat.le_of_ble_eq_true rfl) rfl (by decide) (zt_M_nextIfWell hr60)]
            rw [zs_aload_n (ls := [some (.ref 82), some (.int (24 * (σ 82 39))), some (.int r59.1)]) zd_112_249 rfl]
            rw [zs_iload_n (ls := [some (.ref 82), some (.int (24 * (σ 82 39))), some (.int r59.1)]) zd_112_250 rfl]
            obtain ⟨r61, hr61, H⟩ := Option.bind_eq_some_iff.mp H
            rw [zp_callVv (st := [.int r59.1, .ref 82]) (as := [.ref 82, .int r59.1]) (rest := []) (e := 4) zd_112_251 rfl (by decide +kernel) (by decide) rfl rfl (Nat.le_of_ble_eq_true rfl) (zx_rcb_ok rfl (show 82 < 119 by decide)) (Nat.le_of_ble_eq_true rfl) rfl (by decide) (zt_M_test hr61)]
            rw [zs_aload_n (ls := [some (.ref 82), some (.int (24 * (σ 82 39))), some (.int r59.1)]) zd_112_254 rfl]
            rw [zs_iconst (z := 3) zd_112_255 (by decide)]
            rw [zs_iload_n (ls := [some (.ref 82), some (.int (24 * (σ 82 39))), some (.int r59.1)]) zd_112_256 rfl]
            obtain ⟨r62, hr62, H⟩ := Option.bind_eq_some_iff.mp H
            rw [zp_callVv (st := [.int r59.1, .int 3, .ref 82]) (as := [.ref 82, .int 3, .int r59.1]) (rest := []) (e := 3) zd_112_257 rfl (by decide +kernel) (by decide) rfl rfl (Nat.le_of_ble_eq_true rfl) (zx_rcb_ok rfl (show 82 < 119 by decide)) (Nat.le_of_ble_eq_true rfl) rfl (by decide) (zt_M_openBlock hr62)]
            rw [zs_goto (t := 483) zd_112_260 rfl]
            have H := Option.some.inj H
            subst H
            exact zs_return zd_112_483 (by decide +kernel)
          · rw [if_neg c5] at H
            by_cases c6 : (σ 82 8) = 6
            · rw [if_pos c6] at H
              rw [zs_table (x := (σ 82 8)) (off := 441) (t := 479) zd_112_38 (by rw [c6]; decide) rfl]
              rw [zs_aload_n (ls := [some (.ref 82), some (.int (24 * (σ 82 39))), none]) zd_112_479 rfl]
              obtain ⟨r58, hr58, H⟩ := Option.bind_eq_some_iff.mp H
              rw [zp_callVv (st := [.ref 82]) (as := [.ref 82]) (rest := []) (e := 1) zd_112_480 rfl (by decide +kernel) (by decide) rfl rfl (Nat.le_of_ble_eq_true rfl) (zx_rcb_ok rfl (show 82 < 119 by decide)) (Nat.le_of_ble_eq_true rfl) rfl (by decide) (zt_M_cannot hr58)]
              have H := Option.some.inj H
              subst H
              exact zs_return zd_112_483 (by decide +kernel)
            · rw [if_neg c6] at H
              by_cases c7 : (σ 82 8) = 7
              · rw [if_pos c7] at H
                rw [zs_table (x := (σ 82 8)) (off := 225) (t := 263) zd_112_38 (by rw [c7]; decide) rfl]
                rw [zs_aload_n (ls := [some (.ref 82), some (.int (24 * (σ 82 39))), none]) zd_112_263 rfl]
                rw [zs_bipush (z := 6) zd_112_264 (by decide)]
                rw [zs_iconst (z := (-1)) zd_112_266 (by decide)]
                obtain ⟨r54, hr54, H⟩ := Option.bind_eq_some_iff.mp H
                rw [zp_callVi (x := r54.1) (st := [.int (-1), .int 6, .ref 82]) (as := [.ref 82, .int 6, .int (-1)]) (rest := []) (e := 1) zd_112_267 rfl (by decide +kernel) (by decide) rfl rfl (Nat.le_of_ble_eq_true rfl) (zx_rcb_ok rfl (show 82 < 119 by decide)) (Nat.le_of_ble_eq_true rfl) rfl (by decide) (zt_M_addStep hr54)]
                rw [zs_istore_n (x := r54.1) (ls' := [some (.ref 82), some (.int (24 * (σ 82 39))), some (.int r54.1)]) zd_112_270 (Nat.le_of_ble_eq_true rfl) rfl]
                rw [zs_aload_n (ls := [some (.ref 82), some (.int (24 * (σ 82 39))), some (.int r54.1)]) zd_112_271 rfl]
                obtain ⟨r55, hr55, H⟩ := Option.bind_eq_some_iff.mp H
                rw [zp_callVv (st := [.ref 82]) (as := [.ref 82]) (rest := []) (e := 3) zd_112_272 rfl (by decide +kernel) (by decide) rfl rfl (Nat.le_of_ble_eq_true rfl) (zx_rcb_ok rfl (show 82 < 119 by decide)) (Nat.le_of_ble_eq_true rfl) rfl (by decide) (zt_M_nextIfWell hr55)]
                rw [zs_aload_n (ls := [some (.ref 82), some (.int (24 * (σ 82 39))), some (.int r54.1)]) zd_112_275 rfl]
                rw [zs_iload_n (ls := [some (.ref 82), some (.int (24 * (σ 82 39))), some (.int r54.1)]) zd_112_276 rfl]
                obtain ⟨r56, hr56, H⟩ := Option.bind_eq_some_iff.mp H
                rw [zp_callVv (st := [.int r54.1, .ref 82]) (as := [.ref 82, .int r54.1]) (rest := []) (e := 4) zd_112_277 rfl (by decide +kernel) (by decide) rfl rfl (Nat.le_of_ble_eq_true rfl) (zx_rcb_ok rfl (show 82 < 119 by decide)) (Nat.le_of_ble_eq_true rfl) rfl (by decide) (zt_M_test hr56)]
                rw [zs_aload_n (ls := [some (.ref 82), some (.int (24 * (σ 82 39))), some (.int r54.1)]) zd_112_280 rfl]
                rw [zs_iconst (z := 5) zd_112_281 (by decide)]
                rw [zs_iload_n (ls := [some (.ref 82), some (.int (24 * (σ 82 39))), some (.int r54.1)]) zd_112_282 rfl]
                obtain ⟨r57, hr57, H⟩ := Option.bind_eq_some_iff.mp H
                rw [zp_callVv (st := [.int r54.1, .int 5, .ref 82]) (as := [.ref 82, .int 5, .int r54.1]) (rest := []) (e := 3) zd_112_283 rfl (by decide +kernel) (by decide) rfl rfl (Nat.le_of_ble_eq_true rfl) (zx_rcb_ok rfl (show 82 < 119 by decide)) (Nat.le_of_ble_eq_true rfl) rfl (by decide) (zt_M_openBlock hr57)]
                rw [zs_goto (t := 483) zd_112_286 rfl]
                have H := Option.some.inj H
                subst H
                exact zs_return zd_112_483 (by decide +kernel)
              · rw [if_neg c7] at H
                by_cases c8 : (σ 82 8) = 8
                · rw [if_pos c8] at H
                  rw [zs_table (x := (σ 82 8)) (off := 251) (t := 289) zd_112_38 (by rw [c8]; decide) rfl]
                  rw [zs_aload_n (ls := [some (.ref 82), some (.int (24 * (σ 82 39))), none]) zd_112_289 rfl]
                  rw [zs_bipush (z := 7) zd_112_290 (by decide)]
                  rw [zs_iconst (z := 0) zd_112_292 (by decide)]
                  obtain ⟨r49, hr49, H⟩ := Option.bind_eq_some_iff.mp H
                  rw [zp_callVi (x := r49.1) (st := [.int 0, .int 7, .ref 82]) (as := [.ref 82, .int 7, .int 0]) (rest := []) (e := 1) zd_112_293 rfl (by decide +kernel) (by decide) rfl rfl (Nat.le_of_ble_eq_true rfl) (zx_rcb_ok rfl (show 82 < 119 by decide)) (Nat.le_of_ble_eq_true rfl) rfl (by decide) (zt_M_addStep hr49)]
                  rw [zs_istore_n (x := r49.1) (ls' := [some (.ref 82), some (.int (24 * (σ 82 39))), some (.int r49.1)]) zd_112_296 (Nat.le_of_ble_eq_true rfl) rfl]
                  rw [zs_aload_n (ls := [some (.ref 82), some (.int (24 * (σ 82 39))), some (.int r49.1)]) zd_112_297 rfl]
                  obtain ⟨r50, hr50, H⟩ := Option.bind_eq_some_iff.mp H
                  rw [zp_callVv (st := [.ref 82]) (as := [.ref 82]) (rest := []) (e := 3) zd_112_298 rfl (by decide +kernel) (by decide) rfl rfl (Nat.le_of_ble_eq_true rfl) (zx_rcb_ok rfl (show 82 < 119 by decide)) (Nat.le_of_ble_eq_true rfl) rfl (by decide) (zt_M_nextIfWell hr50)]
                  rw [zs_aload_n (ls := [some (.ref 82), some (.int (24 * (σ 82 39))), some (.int r49.1)]) zd_112_301 rfl]
                  rw [zs_getR (n := 119) (K := zx_pk (zK L) 119) (ρ := zR) (c := 12) (k := 28) (q := 82) (p := 93) zd_112_302 rfl rfl rfl (by decide) rfl]
                  rw [zs_iload_n (ls := [some (.ref 82), some (.int (24 * (σ 82 39))), some (.int r49.1)]) zd_112_305 rfl]
                  rw [zs_iload_n (ls := [some (.ref 82), some (.int (24 * (σ 82 39))), some (.int r49.1)]) zd_112_306 rfl]
                  rw [zp_iadd (x := (24 * (σ 82 39))) (y := r49.1) (z := ((24 * (σ 82 39)) + r49.1)) zd_112_307 rfl]
                  rw [zs_aload_n (ls := [some (.ref 82), some (.int (24 * (σ 82 39))), some (.int r49.1)]) zd_112_308 rfl]
                  obtain ⟨r51, hr51, H⟩ := Option.bind_eq_some_iff.mp H
                  rw [zp_callVi (x := r51.1) (st := [.ref 82, .int ((24 * (σ 82 39)) + r49.1), .ref 93]) (as := [.ref 82]) (rest := [.int ((24 * (σ 82 39)) + r49.1), .ref 93]) (e := 3) zd_112_309 rfl (by decide +kernel) (by decide) rfl rfl (Nat.le_of_ble_eq_true rfl) (zx_rcb_ok rfl (show 82 < 119 by decide)) (Nat.le_of_ble_eq_true rfl) rfl (by decide) (zt_M_lockNamed hr51)]
                  by_cases c52 : 0 ≤ ((24 * (σ 82 39)) + r49.1) ∧ ((24 * (σ 82 39)) + r49.1) < 96
                  · rw [if_pos c52] at H
                    rw [zp_iastore (n := 119) (K := zx_pk (zK L) 119) (q := 93) (m := 96) (i := ((24 * (σ 82 39)) + r49.1)) (k := ((24 * (σ 82 39)) + r49.1).toNatClampNeg) (x := r51.1) (z := r51.1) zd_112_312 rfl ⟨by decide, by decide⟩ (zJ_in c52 rfl) rfl rfl]
                    rw [zs_aload_n (ls := [some (.ref 82), some (.int (24 * (σ 82 39))), some (.int r49.1)]) zd_112_313 rfl]
                    rw [zs_bipush (z := 59) zd_112_314 (by decide)]
                    obtain ⟨r53, hr53, H⟩ := Option.bind_eq_some_iff.mp H
                    rw [zp_callVv (st := [.int 59, .ref 82]) (as := [.ref 82, .int 59]) (rest := []) (e := 3) zd_112_316 rfl (by decide +kernel) (by decide) rfl rfl (Nat.le_of_ble_eq_true rfl) (zx_rcb_ok rfl (show 82 < 119 by decide)) (Nat.le_of_ble_eq_true rfl) rfl (by decide) (zt_M_take hr53)]
                    rw [zs_goto (t := 483) zd_112_319 rfl]
                    have H := Option.some.inj H
                    subst H
                    exact zs_return zd_112_483 (by decide +kernel)
                  · rw [if_neg c52] at H
                    cases H
                · rw [if_neg c8] at H
                  by_cases c9 : (σ 82 8) = 9
                  · rw [if_pos c9] at H
                    rw [zs_table (x := (σ 82 8)) (off := 284) (t := 322) zd_112_38 (by rw [c9]; decide) rfl]
                    rw [zs_aload_n (ls := [some (.ref 82), some (.int (24 * (σ 82 39))), none]) zd_112_322 rfl]
                    rw [zs_bipush (z := 8) zd_112_323 (by decide)]
                    rw [zs_iconst (z := 0) zd_112_325 (by decide)]
                    obtain ⟨r39, hr39, H⟩ := Option.bind_eq_some_iff.mp H
                    rw [zp_callVi (x := r39.1) (st := [.int 0, .int 8, .ref 82]) (as := [.ref 82, .int 8, .int 0]) (rest := []) (e := 1) zd_112_326 rfl (by decide +kernel) (by decide) rfl rfl (Nat.le_of_ble_eq_true rfl) (zx_rcb_ok rfl (show 82 < 119 by decide)) (Nat.le_of_ble_eq_true rfl) rfl (by decide) (zt_M_addStep hr39)]
                    rw [zs_istore_n (x := r39.1) (ls' := [some (.ref 82), some (.int (24 * (σ 82 39))), some (.int r39.1)]) zd_112_329 (Nat.le_of_ble_eq_true rfl) rfl]
                    rw [zs_aload_n (ls := [some (.ref 82), some (.int (24 * (σ 82 39))), some (.int r39.1)]) zd_112_330 rfl]
                    obtain ⟨r40, hr40, H⟩ := Option.bind_eq_some_iff.mp H
                    rw [zp_callVv (st := [.ref 82]) (as := [.ref 82]) (rest := []) (e := 3) zd_112_331 rfl (by decide +kernel) (by decide) rfl rfl (Nat.le_of_ble_eq_true rfl) (zx_rcb_ok rfl (show 82 < 119 by decide)) (Nat.le_of_ble_eq_true rfl) rfl (by decide) (zt_M_nextIfWell hr40)]
                    rw [zs_aload_n (ls := [some (.ref 82), some (.int (24 * (σ 82 39))), some (.int r39.1)]) zd_112_334 rfl]
                    rw [zp_getZ (n := 119) (K := zx_pk (zK L) 119) (σ := r40) (c := 12) (k := 9) (q := 82) (v := (r40 82 9)) zd_112_335 rfl rfl rfl (by decide) rfl]
                    by_cases c41 : ¬ (r40 82 9) = 0
                    · rw [if_pos c41] at H
                      rw [zp_if_ne_t (x := (r40 82 9)) (t := 364) zd_112_338 rfl c41]
                      exact zt_M_statement_364  H
                    · rw [if_neg c41] at H
                      rw [zp_if_ne_f (x := (r40 82 9)) (t := 364) zd_112_338 rfl c41]
                      rw [zs_aload_n (ls := [some (.ref 82), some (.int (24 * (σ 82 39))), some (.int r39.1)]) zd_112_341 rfl]
                      rw [zs_bipush (z := 10) zd_112_342 (by decide)]
                      obtain ⟨r45, hr45, H⟩ := Option.bind_eq_some_iff.mp H
                      rw [zp_callVi (x := r45) (st := [.int 10, .ref 82]) (as := [.ref 82, .int 10]) (rest := []) (e := 0) zd_112_344 rfl (by decide +kernel) (by decide) rfl rfl (Nat.le_of_ble_eq_true rfl) (zx_rcb_ok rfl (show 82 < 119 by decide)) (Nat.le_of_ble_eq_true rfl) rfl (by decide) (zt_M_isWord hr45)]
                      by_cases c46 : r45 = 0
                      · rw [if_pos c46] at H
                        rw [zp_if_eq_t (x := r45) (t := 364) zd_112_347 rfl c46]
                        exact zt_M_statement_364  H
                      · rw [if_neg c46] at H
                        rw [zp_if_eq_f (x := r45) (t := 364) zd_112_347 rfl c46]
                        rw [zs_aload_n (ls := [some (.ref 82), some (.int (24 * (σ 82 39))), some (.int r39.1)]) zd_112_350 rfl]
                        rw [zs_getR (n := 119) (K := zx_pk (zK L) 119) (ρ := zR) (c := 12) (k := 27) (q := 82) (p := 92) zd_112_351 rfl rfl rfl (by decide) rfl]
                        rw [zs_iload_n (ls := [some (.ref 82), some (.int (24 * (σ 82 39))), some (.int r39.1)]) zd_112_354 rfl]
                        rw [zs_iload_n (ls := [some (.ref 82), some (.int (24 * (σ 82 39))), some (.int r39.1)]) zd_112_355 rfl]
                        rw [zp_iadd (x := (24 * (σ 82 39))) (y := r39.1) (z := ((24 * (σ 82 39)) + r39.1)) zd_112_356 rfl]
                        rw [zs_bipush (z := 9) zd_112_357 (by decide)]
                        by_cases c47 : 0 ≤ ((24 * (σ 82 39)) + r39.1) ∧ ((24 * (σ 82 39)) + r39.1) < 96
                        · rw [if_pos c47] at H
                          rw [zp_iastore (n := 119) (K := zx_pk (zK L) 119) (q := 92) (m := 96) (i := ((24 * (σ 82 39)) + r39.1)) (k := ((24 * (σ 82 39)) + r39.1).toNatClampNeg) (x := 9) (z := 9) zd_112_359 rfl ⟨by decide, by decide⟩ (zJ_in c47 rfl) rfl rfl]
                          rw [zs_aload_n (ls := [some (.ref 82), some (.int (24 * (σ 82 39))), some (.int r39.1)]) zd_112_360 rfl]
                          obtain ⟨r48, hr48, H⟩ := Option.bind_eq_some_iff.mp H
                          rw [zp_callVv (st := [.ref 82]) (as := [.ref 82]) (rest := []) (e := 2) zd_112_361 rfl (by decide +kernel) (by decide) rfl rfl (Nat.le_of_ble_eq_true rfl) (zx_rcb_ok rfl (show 82 < 119 by decide)) (Nat.le_of_ble_eq_true rfl) rfl (by decide) (zt_M_next hr48)]
                          exact zt_M_statement_364  H
                        · rw [if_neg c47] at H
                          cases H
                  · rw [if_neg c9] at H
                    by_cases c10 : (σ 82 8) = 10
                    · rw [if_pos c10] at H
                      rw [zs_table (x := (σ 82 8)) (off := 441) (t := 479) zd_112_38 (by rw [c10]; decide) rfl]
                      rw [zs_aload_n (ls := [some (.ref 82), some (.int (24 * (σ 82 39))), none]) zd_112_479 rfl]
                      obtain ⟨r38, hr38, H⟩ := Option.bind_eq_some_iff.mp H
                      rw [zp_callVv (st := [.ref 82]) (as := [.ref 82]) (rest := []) (e := 1) zd_112_480 rfl (by decide +kernel) (by decide) rfl rfl (Nat.le_of_ble_eq_true rfl) (zx_rcb_ok rfl (show 82 < 119 by decide)) (Nat.le_of_ble_eq_true rfl) rfl (by decide) (zt_M_cannot hr38)]
                      have H := Option.some.inj H
                      subst H
                      exact zs_return zd_112_483 (by decide +kernel)
                    · rw [if_neg c10] at H
                      by_cases c11 : (σ 82 8) = 11
                      · rw [if_pos c11] at H
                        rw [zs_table (x := (σ 82 8)) (off := 347) (t := 385) zd_112_38 (by rw [c11]; decide) rfl]
                        rw [zs_aload_n (ls := [some (.ref 82), some (.int (24 * (σ 82 39))), none]) zd_112_385 rfl]
                        rw [zs_aload_n (ls := [some (.ref 82), some (.int (24 * (σ 82 39))), none]) zd_112_386 rfl]
                        rw [zp_getI (n := 119) (K := zx_pk (zK L) 119) (σ := σ) (c := 12) (k := 8) (q := 82) (v := (σ 82 8)) zd_112_387 rfl rfl rfl (by decide) rfl]
                        rw [zs_bipush (z := 11) zd_112_390 (by decide)]
                        by_cases c37 : ¬ (σ 82 8) = 11
                        · rw [if_pos c37] at H
                          rw [zp_icmp_ne_t (x := (σ 82 8)) (y := 11) (t := 400) zd_112_392 rfl c37]
                          rw [zs_bipush (z := 11) zd_112_400 (by decide)]
                          exact zt_M_statement_402  H
                        · rw [if_neg c37] at H
                          rw [zp_icmp_ne_f (x := (σ 82 8)) (y := 11) (t := 400) zd_112_392 rfl c37]
                          rw [zs_bipush (z := 10) zd_112_395 (by decide)]
                          rw [zs_goto (t := 402) zd_112_397 rfl]
                          exact zt_M_statement_402  H
                      · rw [if_neg c11] at H
                        by_cases c12 : (σ 82 8) = 12
                        · rw [if_pos c12] at H
                          rw [zs_table (x := (σ 82 8)) (off := 347) (t := 385) zd_112_38 (by rw [c12]; decide) rfl]
                          rw [zs_aload_n (ls := [some (.ref 82), some (.int (24 * (σ 82 39))), none]) zd_112_385 rfl]
                          rw [zs_aload_n (ls := [some (.ref 82), some (.int (24 * (σ 82 39))), none]) zd_112_386 rfl]
                          rw [zp_getI (n := 119) (K := zx_pk (zK L) 119) (σ := σ) (c := 12) (k := 8) (q := 82) (v := (σ 82 8)) zd_112_387 rfl rfl rfl (by decide) rfl]
                          rw [zs_bipush (z := 11) zd_112_390 (by decide)]
                          by_cases c31 : ¬ (σ 82 8) = 11
                          · rw [if_pos c31] at H
                            rw [zp_icmp_ne_t (x := (σ 82 8)) (y := 11) (t := 400) zd_112_392 rfl c31]
                            rw [zs_bipush (z := 11) zd_112_400 (by decide)]
                            exact zt_M_statement_402  H
                          · rw [if_neg c31] at H
                            rw [zp_icmp_ne_f (x := (σ 82 8)) (y := 11) (t := 400) zd_112_392 rfl c31]
                            rw [zs_bipush (z := 10) zd_112_395 (by decide)]
                            rw [zs_goto (t := 402) zd_112_397 rfl]
                            exact zt_M_statement_402  H
                        · rw [if_neg c12] at H
                          by_cases c13 : (σ 82 8) = 13
                          · rw [if_pos c13] at H
                            rw [zs_table (x := (σ 82 8)) (off := 394) (t := 432) zd_112_38 (by rw [c13]; decide) rfl]
                            rw [zs_aload_n (ls := [some (.ref 82), some (.int (24 * (σ 82 39))), none]) zd_112_432 rfl]
                            rw [zs_bipush (z := 12) zd_112_433 (by decide)]
                            rw [zs_iconst (z := (-1)) zd_112_435 (by decide)]
                            obtain ⟨r27, hr27, H⟩ := Option.bind_eq_some_iff.mp H
                            rw [zp_callVi (x := r27.1) (st := [.int (-1), .int 12, .ref 82]) (as := [.ref 82, .int 12, .int (-1)]) (rest := []) (e := 1) zd_112_436 rfl (by decide +kernel) (by decide) rfl rfl (Nat.le_of_ble_eq_true rfl) (zx_rcb_ok rfl (show 82 < 119 by decide)) (Nat.le_of_ble_eq_true rfl) rfl (by decide) (zt_M_addStep hr27)]
                            rw [zs_istore_n (x := r27.1) (ls' := [some (.ref 82), some (.int (24 * (σ 82 39))), some (.int r27.1)]) zd_112_439 (Nat.le_of_ble_eq_true rfl) rfl]
                            rw [zs_aload_n (ls := [some (.ref 82), some (.int (24 * (σ 82 39))), some (.int r27.1)]) zd_112_440 rfl]
                            obtain ⟨r28, hr28, H⟩ := Option.bind_eq_some_iff.mp H
                            rw [zp_callVv (st := [.ref 82]) (as := [.ref 82]) (rest := []) (e := 3) zd_112_441 rfl (by decide +kernel) (by decide) rfl rfl (Nat.le_of_ble_eq_true rfl) (zx_rcb_ok rfl (show 82 < 119 by decide)) (Nat.le_of_ble_eq_true rfl) rfl (by decide) (zt_M_nextIfWell hr28)]
                            rw [zs_aload_n (ls := [some (.ref 82), some (.int (24 * (σ 82 39))), some (.int r27.1)]) zd_112_444 rfl]
                            rw [zs_iload_n (ls := [some (.ref 82), some (.int (24 * (σ 82 39))), some (.int r27.1)]) zd_112_445 rfl]
                            obtain ⟨r29, hr29, H⟩ := Option.bind_eq_some_iff.mp H
                            rw [zp_callVv (st := [.int r27.1, .ref 82]) (as := [.ref 82, .int r27.1]) (rest := []) (e := 4) zd_112_446 rfl (by decide +kernel) (by decide) rfl rfl (Nat.le_of_ble_eq_true rfl) (zx_rcb_ok rfl (show 82 < 119 by decide)) (Nat.le_of_ble_eq_true rfl) rfl (by decide) (zt_M_test hr29)]
                            rw [zs_aload_n (ls := [some (.ref 82), some (.int (24 * (σ 82 39))), some (.int r27.1)]) zd_112_449 rfl]
                            rw [zs_bipush (z := 59) zd_112_450 (by decide)]
                            obtain ⟨r30, hr30, H⟩ := Option.bind_eq_some_iff.mp H
                            rw [zp_callVv (st := [.int 59, .ref 82]) (as := [.ref 82, .int 59]) (rest := []) (e := 3) zd_112_452 rfl (by decide +kernel) (by decide) rfl rfl (Nat.le_of_ble_eq_true rfl) (zx_rcb_ok rfl (show 82 < 119 by decide)) (Nat.le_of_ble_eq_true rfl) rfl (by decide) (zt_M_take hr30)]
                            rw [zs_goto (t := 483) zd_112_455 rfl]
                            have H := Option.some.inj H
                            subst H
                            exact zs_return zd_112_483 (by decide +kernel)
                          · rw [if_neg c13] at H
                            by_cases c14 : (σ 82 8) = 14
                            · rw [if_pos c14] at H
                              rw [zs_table (x := (σ 82 8)) (off := 420) (t := 458) zd_112_38 (by rw [c14]; decide) rfl]
                              rw [zs_aload_n (ls := [some (.ref 82), some (.int (24 * (σ 82 39))), none]) zd_112_458 rfl]
                              rw [zs_bipush (z := 13) zd_112_459 (by decide)]
                              rw [zs_iconst (z := (-1)) zd_112_461 (by decide)]
                              obtain ⟨r24, hr24, H⟩ := Option.bind_eq_some_iff.mp H
                              rw [zp_callVi (x := r24.1) (st := [.int (-1), .int 13, .ref 82]) (as := [.ref 82, .int 13, .int (-1)]) (rest := []) (e := 1) zd_112_462 rfl (by decide +kernel) (by decide) rfl rfl (Nat.le_of_ble_eq_true rfl) (zx_rcb_ok rfl (show 82 < 119 by decide)) (Nat.le_of_ble_eq_true rfl) rfl (by decide) (zt_M_addStep hr24)]
                              rw [zs_istore_n (x := r24.1) (ls' := [some (.ref 82), some (.int (24 * (σ 82 39))), some (.int r24.1)]) zd_112_465 (Nat.le_of_ble_eq_true rfl) rfl]
                              rw [zs_aload_n (ls := [some (.ref 82), some (.int (24 * (σ 82 39))), some (.int r24.1)]) zd_112_466 rfl]
                              obtain ⟨r25, hr25, H⟩ := Option.bind_eq_some_iff.mp H
                              rw [zp_callVv (st := [.ref 82]) (as := [.ref 82]) (rest := []) (e := 3) zd_112_467 rfl (by decide +kernel) (by decide) rfl rfl (Nat.le_of_ble_eq_true rfl) (zx_rcb_ok rfl (show 82 < 119 by decide)) (Nat.le_of_ble_eq_true rfl) rfl (by decide) (zt_M_nextIfWell hr25)]
                              rw [zs_aload_n (ls := [some (.ref 82), some (.int (24 * (σ 82 39))), some (.int r24.1)]) zd_112_470 rfl]
                              rw [zs_bipush (z := 59) zd_112_471 (by decide)]
                              obtain ⟨r26, hr26, H⟩ := Option.bind_eq_some_iff.mp H
                              rw [zp_callVv (st := [.int 59, .ref 82]) (as := [.ref 82, .int 59]) (rest := []) (e := 3) zd_112_473 rfl (by decide +kernel) (by decide) rfl rfl (Nat.le_of_ble_eq_true rfl) (zx_rcb_ok rfl (show 82 < 119 by decide)) (Nat.le_of_ble_eq_true rfl) rfl (by decide) (zt_M_take hr26)]
                              rw [zs_goto (t := 483) zd_112_476 rfl]
                              have H := Option.some.inj H
                              subst H
                              exact zs_return zd_112_483 (by decide +kernel)
                            · rw [if_neg c14] at H
                              by_cases c15 : (σ 82 8) = 15
                              · rw [if_pos c15] at H
                                rw [zs_table (x := (σ 82 8)) (off := 124) (t := 162) zd_112_38 (by rw [c15]; decide) rfl]
                                rw [zs_aload_n (ls := [some (.ref 82), some (.int (24 * (σ 82 39))), none]) zd_112_162 rfl]
                                rw [zp_getI (n := 119) (K := zx_pk (zK L) 119) (σ := σ) (c := 12) (k := 41) (q := 82) (v := (σ 82 41)) zd_112_163 rfl rfl rfl (by decide) rfl]
                                rw [zs_iconst (z := (-1)) zd_112_166 (by decide)]
                                by_cases c17 : (σ 82 41) = (-1)
                                · rw [if_pos c17] at H
                                  rw [zp_icmp_eq_t (x := (σ 82 41)) (y := (-1)) (t := 177) zd_112_167 rfl c17]
                                  rw [zs_aload_n (ls := [some (.ref 82), some (.int (24 * (σ 82 39))), none]) zd_112_177 rfl]
                                  rw [zp_getI (n := 119) (K := zx_pk (zK L) 119) (σ := σ) (c := 12) (k := 25) (q := 82) (v := (σ 82 25)) zd_112_178 rfl rfl rfl (by decide) rfl]
                                  rw [zs_bipush (z := 6) zd_112_181 (by decide)]
                                  by_cases c18 : ¬ (σ 82 25) = 6
                                  · rw [if_pos c18] at H
                                    rw [zp_icmp_ne_t (x := (σ 82 25)) (y := 6) (t := 194) zd_112_183 rfl c18]
                                    rw [zs_aload_n (ls := [some (.ref 82), some (.int (24 * (σ 82 39))), none]) zd_112_194 rfl]
                                    obtain ⟨r19, hr19, H⟩ := Option.bind_eq_some_iff.mp H
                                    rw [zp_callVv (st := [.ref 82]) (as := [.ref 82]) (rest := []) (e := 2) zd_112_195 rfl (by decide +kernel) (by decide) rfl rfl (Nat.le_of_ble_eq_true rfl) (zx_rcb_ok rfl (show 82 < 119 by decide)) (Nat.le_of_ble_eq_true rfl) rfl (by decide) (zt_M_next hr19)]
                                    rw [zs_aload_n (ls := [some (.ref 82), some (.int (24 * (σ 82 39))), none]) zd_112_198 rfl]
                                    rw [zs_iconst (z := 2) zd_112_199 (by decide)]
                                    rw [zs_iconst (z := 0) zd_112_200 (by decide)]
                                    obtain ⟨r20, hr20, H⟩ := Option.bind_eq_some_iff.mp H
                                    rw [zp_callVv (st := [.int 0, .int 2, .ref 82]) (as := [.ref 82, .int 2, .int 0]) (rest := []) (e := 3) zd_112_201 rfl (by decide +kernel) (by decide) rfl rfl (Nat.le_of_ble_eq_true rfl) (zx_rcb_ok rfl (show 82 < 119 by decide)) (Nat.le_of_ble_eq_true rfl) rfl (by decide) (zt_M_openBlock hr20)]
                                    rw [zs_aload_n (ls := [some (.ref 82), some (.int (24 * (σ 82 39))), none]) zd_112_204 rfl]
                                    rw [zs_aload_n (ls := [some (.ref 82), some (.int (24 * (σ 82 39))), none]) zd_112_205 rfl]
                                    rw [zp_getI (n := 119) (K := zx_pk (zK L) 119) (σ := r20) (c := 12) (k := 25) (q := 82) (v := (r20 82 25)) zd_112_206 rfl rfl rfl (by decide) rfl]
                                    rw [zs_putI (n := 119) (K := zx_pk (zK L) 119) (c := 12) (k := 41) (q := 82) (x := (r20 82 25)) zd_112_209 rfl rfl (by decide +kernel) rfl (by decide)]
                                    rw [zs_aload_n (ls := [some (.ref 82), some (.int (24 * (σ 82 39))), none]) zd_112_212 rfl]
                                    rw [zs_getR (n := 119) (K := zx_pk (zK L) 119) (ρ := zR) (c := 12) (k := 26) (q := 82) (p := 91) zd_112_213 rfl rfl rfl (by decide) rfl]
                                    rw [zs_aload_n (ls := [some (.ref 82), some (.int (24 * (σ 82 39))), none]) zd_112_216 rfl]
                                    rw [zp_getI (n := 119) (K := zx_pk (zK L) 119) (σ := (zx_up r20 82 41 (r20 82 25))) (c := 12) (k := 25) (q := 82) (v := (r20 82 25)) zd_112_217 rfl rfl rfl (by decide) (show ((zx_up r20 82 41 (r20 82 25)) : zS) 82 25 = (r20 82 25) from ((zx_up_nj (by decide)).trans rfl))]
                                    rw [zs_aload_n (ls := [some (.ref 82), some (.int (24 * (σ 82 39))), none]) zd_112_220 rfl]
                                    rw [zp_getI (n := 119) (K := zx_pk (zK L) 119) (σ := (zx_up r20 82 41 (r20 82 25))) (c := 12) (k := 39) (q := 82) (v := (r20 82 39)) zd_112_221 rfl rfl rfl (by decide) (show ((zx_up r20 82 41 (r20 82 25)) : zS) 82 39 = (r20 82 39) from ((zx_up_nj (by decide)).trans rfl))]
                                    by_cases c21 : 0 ≤ (r20 82 25) ∧ (r20 82 25) < 6
                                    · rw [if_pos c21] at H
                                      rw [zp_iastore (n := 119) (K := zx_pk (zK L) 119) (q := 91) (m := 6) (i := (r20 82 25)) (k := (r20 82 25).toNatClampNeg) (x := (r20 82 39)) (z := (r20 82 39)) zd_112_224 rfl ⟨by decide, by decide⟩ (zJ_in c21 rfl) rfl rfl]
                                      rw [zs_aload_n (ls := [some (.ref 82), some (.int (24 * (σ 82 39))), none]) zd_112_225 rfl]
                                      rw [zs_dup (a := .ref 82) zd_112_226 rfl]
                                      rw [zp_getI (n := 119) (K := zx_pk (zK L) 119) (σ := (zx_up (zx_up r20 82 41 (r20 82 25)) 91 (r20 82 25).toNatClampNeg (r20 82 39))) (c := 12) (k := 25) (q := 82) (v := (r20 82 25)) zd_112_227 rfl rfl rfl (by decide) (show ((zx_up (zx_up r20 82 41 (r20 82 25)) 91 (r20 82 25).toNatClampNeg (r20 82 39)) : zS) 82 25 = (r20 82 25) from ((zx_up_ne (by decide)).trans ((zx_up_nj (by decide)).trans rfl)))]
                                      rw [zs_iconst (z := 1) zd_112_230 (by decide)]
                                      rw [zp_iadd (x := (r20 82 25)) (y := 1) (z := ((r20 82 25) + 1)) zd_112_231 rfl]
                                      rw [zs_putI (n := 119) (K := zx_pk (zK L) 119) (c := 12) (k := 25) (q := 82) (x := ((r20 82 25) + 1)) zd_112_232 rfl rfl (by decide +kernel) rfl (by decide)]
                                      rw [zs_goto (t := 483) zd_112_235 rfl]
                                      have H := Option.some.inj H
                                      subst H
                                      exact zs_return zd_112_483 (by decide +kernel)
                                    · rw [if_neg c21] at H
                                      cases H
                                  · rw [if_neg c18] at H
                                    rw [zp_icmp_ne_f (x := (σ 82 25)) (y := 6) (t := 194) zd_112_183 rfl c18]
                                    rw [zs_aload_n (ls := [some (.ref 82), some (.int (24 * (σ 82 39))), none]) zd_112_186 rfl]
                                    rw [zs_iconst (z := 4) zd_112_187 (by decide)]
                                    obtain ⟨r22, hr22, H⟩ := Option.bind_eq_some_iff.mp H
                                    rw [zp_callVv (st := [.int 4, .ref 82]) (as := [.ref 82, .int 4]) (rest := []) (e := 0) zd_112_188 rfl (by decide +kernel) (by decide) rfl rfl (Nat.le_of_ble_eq_true rfl) (zx_rcb_ok rfl (show 82 < 119 by decide)) (Nat.le_of_ble_eq_true rfl) rfl (by decide) (zt_M_fail hr22)]
                                    rw [zs_goto (t := 483) zd_112_191 rfl]
                                    have H := Option.some.inj H
                                    subst H
                                    exact zs_return zd_112_483 (by decide +kernel)
                                · rw [if_neg c17] at H
                                  rw [zp_icmp_eq_f (x := (σ 82 41)) (y := (-1)) (t := 177) zd_112_167 rfl c17]
                                  rw [zs_aload_n (ls := [some (.ref 82), some (.int (24 * (σ 82 39))), none]) zd_112_170 rfl]
                                  obtain ⟨r23, hr23, H⟩ := Option.bind_eq_some_iff.mp H
                                  rw [zp_callVv (st := [.ref 82]) (as := [.ref 82]) (rest := []) (e := 1) zd_112_171 rfl (by decide +kernel) (by decide) rfl rfl (Nat.le_of_ble_eq_true rfl) (zx_rcb_ok rfl (show 82 < 119 by decide)) (Nat.le_of_ble_eq_true rfl) rfl (by decide) (zt_M_cannot hr23)]
                                  rw [zs_goto (t := 483) zd_112_174 rfl]
                                  have H := Option.some.inj H
                                  subst H
                                  exact zs_return zd_112_483 (by decide +kernel)
                              · rw [if_neg c15] at H
                                rw [zs_table (x := (σ 82 8)) (off := 441) (t := 479) zd_112_38 (if_pos (by have e : ∀ z : Int32, ¬ (σ 82 8) = z → ¬ ((σ 82 8) : Int32).toInt = z.toInt := fun z h q => h (Int32.toInt_inj.mp q); have q0 := e 3 c3; have q1 := e 4 c4; have q2 := e 5 c5; have q3 := e 6 c6; have q4 := e 7 c7; have q5 := e 8 c8; have q6 := e 9 c9; have q7 := e 10 c10; have q8 := e 11 c11; have q9 := e 12 c12; have q10 := e 13 c13; have q11 := e 14 c14; have q12 := e 15 c15; simp only [show (10 : Int32).toInt = 10 from rfl, show (11 : Int32).toInt = 11 from rfl, show (12 : Int32).toInt = 12 from rfl, show (13 : Int32).toInt = 13 from rfl, show (14 : Int32).toInt = 14 from rfl, show (15 : Int32).toInt = 15 from rfl, show (3 : Int32).toInt = 3 from rfl, show (4 : Int32).toInt = 4 from rfl, show (5 : Int32).toInt = 5 from rfl, show (6 : Int32).toInt = 6 from rfl, show (7 : Int32).toInt = 7 from rfl, show (8 : Int32).toInt = 8 from rfl, show (9 : Int32).toInt = 9 from rfl] at q0 q1 q2 q3 q4 q5 q6 q7 q8 q9 q10 q11 q12; omega)) rfl]
                                rw [zs_aload_n (ls := [some (.ref 82), some (.int (24 * (σ 82 39))), none]) zd_112_479 rfl]
                                obtain ⟨r16, hr16, H⟩ := Option.bind_eq_some_iff.mp H
                                rw [zp_callVv (st := [.ref 82]) (as := [.ref 82]) (rest := []) (e := 1) zd_112_480 rfl (by decide +kernel) (by decide) rfl rfl (Nat.le_of_ble_eq_true rfl) (zx_rcb_ok rfl (show 82 < 119 by decide)) (Nat.le_of_ble_eq_true rfl) rfl (by decide) (zt_M_cannot hr16)]
                                have H := Option.some.inj H
                                subst H
                                exact zs_return zd_112_483 (by decide +kernel)
    · rw [if_neg c2] at H
      rw [zp_icmp_eq_f (x := (σ 82 7)) (y := 5) (t := 34) zd_112_26 rfl c2]
      rw [zs_aload_n (ls := [some (.ref 82), some (.int (24 * (σ 82 39))), none]) zd_112_29 rfl]
      obtain ⟨r71, hr71, H⟩ := Option.bind_eq_some_iff.mp H
      rw [zp_callVv (st := [.ref 82]) (as := [.ref 82]) (rest := []) (e := 1) zd_112_30 rfl (by decide +kernel) (by decide) rfl rfl (Nat.le_of_ble_eq_true rfl) (zx_rcb_ok rfl (show 82 < 119 by decide)) (Nat.le_of_ble_eq_true rfl) rfl (by decide) (zt_M_cannot hr71)]
      have H := Option.some.inj H
      subst H
      exact zs_return zd_112_33 (by decide +kernel)
  · rw [if_neg c1] at H
    rw [zp_icmp_ne_f (x := (σ 82 7)) (y := 2) (t := 21) zd_112_13 rfl c1]
    rw [zs_aload_n (ls := [some (.ref 82), some (.int (24 * (σ 82 39))), none]) zd_112_16 rfl]
    obtain ⟨r72, hr72, H⟩ := Option.bind_eq_some_iff.mp H
    rw [zp_callVv (st := [.ref 82]) (as := [.ref 82]) (rest := []) (e := 4) zd_112_17 rfl (by decide +kernel) (by decide) rfl rfl (Nat.le_of_ble_eq_true rfl) (zx_rcb_ok rfl (show 82 < 119 by decide)) (Nat.le_of_ble_eq_true rfl) rfl (by decide) (zt_M_assign hr72)]
    have H := Option.some.inj H
    subst H
    exact zs_return zd_112_20 (by decide +kernel)
set_option maxRecDepth 20000 in
theorem zt_M_joinOpen_8 {a b L N : Nat} : ∀ {n : Nat} {σ : zS} {τ : zT} {v1 : Int32} {v2 : Int32} {r : zS}, zb_M_joinOpen_8 N n σ v1 v2 = some r → zx_go 0 111 8 [some (.ref 82), some (.int v1), some (.int v2)] [] ((119, a, b), zx_pk (zK L) 119, σ, τ, zR) = some (none, ((119, a, b), zx_pk (zK L) 119, r, τ, zR)) := by
  intro n
  induction n with
  | zero =>
    intro _ _ _ _ _ H
    cases H
  | succ n ih =>
    intro σ τ v1 v2 r H
    rw [zb_M_joinOpen_8] at H
    rw [zs_aload_n (ls := [some (.ref 82), some (.int v1), some (.int v2)]) zd_111_8 rfl]
    rw [zs_getR (n := 119) (K := zx_pk (zK L) 119) (ρ := zR) (c := 12) (k := 38) (q := 82) (p := 102) zd_111_9 rfl rfl rfl (by decide) rfl]
    rw [zs_iload_n (ls := [some (.ref 82), some (.int v1), some (.int v2)]) zd_111_12 rfl]
    by_cases c2 : 0 ≤ v2 ∧ v2 < 48
    · rw [if_pos c2] at H
      rw [zp_iaload (n := 119) (K := zx_pk (zK L) 119) (σ := σ) (q := 102) (m := 48) (i := v2) (k := v2.toNatClampNeg) (v := (σ 102 v2.toNatClampNeg)) zd_111_13 rfl (by decide) (zJ_in c2 rfl) rfl rfl]
      rw [zs_iconst (z := (-1)) zd_111_14 (by decide)]
      by_cases c3 : (σ 102 v2.toNatClampNeg) = (-1)
      · rw [if_pos c3] at H
        rw [zp_icmp_eq_t (x := (σ 102 v2.toNatClampNeg)) (y := (-1)) (t := 28) zd_111_15 rfl c3]
        rw [zs_aload_n (ls := [some (.ref 82), some (.int v1), some (.int v2)]) zd_111_28 rfl]
        rw [zs_getR (n := 119) (K := zx_pk (zK L) 119) (ρ := zR) (c := 12) (k := 38) (q := 82) (p := 102) zd_111_29 rfl rfl rfl (by decide) rfl]
        rw [zs_iload_n (ls := [some (.ref 82), some (.int v1), some (.int v2)]) zd_111_32 rfl]
        rw [zs_aload_n (ls := [some (.ref 82), some (.int v1), some (.int v2)]) zd_111_33 rfl]
        rw [zp_getI (n := 119) (K := zx_pk (zK L) 119) (σ := σ) (c := 12) (k := 37) (q := 82) (v := (σ 82 37)) zd_111_34 rfl rfl rfl (by decide) rfl]
        by_cases c4 : 0 ≤ v2 ∧ v2 < 48
        · rw [if_pos c4] at H
          rw [zp_iastore (n := 119) (K := zx_pk (zK L) 119) (q := 102) (m := 48) (i := v2) (k := v2.toNatClampNeg) (x := (σ 82 37)) (z := (σ 82 37)) zd_111_37 rfl ⟨by decide, by decide⟩ (zJ_in c4 rfl) rfl rfl]
          rw [zs_aload_n (ls := [some (.ref 82), some (.int v1), some (.int v2)]) zd_111_38 rfl]
          rw [zs_iload_n (ls := [some (.ref 82), some (.int v1), some (.int v2)]) zd_111_39 rfl]
          rw [zs_putI (n := 119) (K := zx_pk (zK L) 119) (c := 12) (k := 37) (q := 82) (x := v1) zd_111_40 rfl rfl (by decide +kernel) rfl (by decide)]
          have H := Option.some.inj H
          subst H
          exact zs_return zd_111_43 (by decide +kernel)
        · rw [if_neg c4] at H
          cases H
      · rw [if_neg c3] at H
        rw [zp_icmp_eq_f (x := (σ 102 v2.toNatClampNeg)) (y := (-1)) (t := 28) zd_111_15 rfl c3]
        rw [zs_aload_n (ls := [some (.ref 82), some (.int v1), some (.int v2)]) zd_111_18 rfl]
        rw [zs_getR (n := 119) (K := zx_pk (zK L) 119) (ρ := zR) (c := 12) (k := 38) (q := 82) (p := 102) zd_111_19 rfl rfl rfl (by decide) rfl]
        rw [zs_iload_n (ls := [some (.ref 82), some (.int v1), some (.int v2)]) zd_111_22 rfl]
        by_cases c5 : 0 ≤ v2 ∧ v2 < 48
        · rw [if_pos c5] at H
          rw [zp_iaload (n := 119) (K := zx_pk (zK L) 119) (σ := σ) (q := 102) (m := 48) (i := v2) (k := v2.toNatClampNeg) (v := (σ 102 v2.toNatClampNeg)) zd_111_23 rfl (by decide) (zJ_in c5 rfl) rfl rfl]
          rw [zs_istore_n (x := (σ 102 v2.toNatClampNeg)) (ls' := [some (.ref 82), some (.int v1), some (.int (σ 102 v2.toNatClampNeg))]) zd_111_24 (Nat.le_of_ble_eq_true rfl) rfl]
          rw [zs_goto (t := 8) zd_111_25 rfl]
          exact ih H
        · rw [if_neg c5] at H
          cases H
    · rw [if_neg c2] at H
      cases H
set_option maxRecDepth 20000 in
theorem zt_M_joinOpen {a b L N : Nat} {σ : zS} {τ : zT} {x1 : Int32} {r : zS} (H : zf_M_joinOpen N σ x1 = some r) : zx_go 0 111 0 [some (.ref 82), some (.int x1), none] [] ((119, a, b), zx_pk (zK L) 119, σ, τ, zR) = some (none, ((119, a, b), zx_pk (zK L) 119, r, τ, zR)) := by
  unfold zf_M_joinOpen at H
  rw [zs_iload_n (ls := [some (.ref 82), some (.int x1), none]) zd_111_0 rfl]
  rw [zs_iconst (z := (-1)) zd_111_1 (by decide)]
  by_cases c1 : ¬ x1 = (-1)
  · rw [if_pos c1] at H
    rw [zp_icmp_ne_t (x := x1) (y := (-1)) (t := 6) zd_111_2 rfl c1]
    rw [zs_iload_n (ls := [some (.ref 82), some (.int x1), none]) zd_111_6 rfl]
    rw [zs_istore_n (x := x1) (ls' := [some (.ref 82), some (.int x1), some (.int x1)]) zd_111_7 (Nat.le_of_ble_eq_true rfl) rfl]
    exact zt_M_joinOpen_8  H
  · rw [if_neg c1] at H
    rw [zp_icmp_ne_f (x := x1) (y := (-1)) (t := 6) zd_111_2 rfl c1]
    have H := Option.some.inj H
    subst H
    exact zs_return zd_111_5 (by decide +kernel)
set_option maxRecDepth 20000 in
theorem zt_M_closeBlock_177 {a b L N : Nat} {σ : zS} {τ : zT} {v1 : Int32} {o2 : Option Value} {o3 : Option Value} {r : zS} (H : zb_M_closeBlock_177 N σ v1 = some r) : zx_go 4 107 177 [some (.ref 82), some (.int v1), o2, o3] [] ((119, a, b), zx_pk (zK L) 119, σ, τ, zR) = some (none, ((119, a, b), zx_pk (zK L) 119, r, τ, zR)) := by
  unfold zb_M_closeBlock_177 at H
  rw [zs_aload_n (ls := [some (.ref 82), some (.int v1), o2, o3]) zd_107_177 rfl]
  rw [zs_dup (a := .ref 82) zd_107_178 rfl]
  rw [zp_getI (n := 119) (K := zx_pk (zK L) 119) (σ := σ) (c := 12) (k := 46) (q := 82) (v := (σ 82 46)) zd_107_179 rfl rfl rfl (by decide) rfl]
  rw [zs_iconst (z := 1) zd_107_182 (by decide)]
  rw [zp_isub (x := (σ 82 46)) (y := 1) (z := ((σ 82 46) - 1)) zd_107_183 rfl]
  rw [zs_putI (n := 119) (K := zx_pk (zK L) 119) (c := 12) (k := 46) (q := 82) (x := ((σ 82 46) - 1)) zd_107_184 rfl rfl (by decide +kernel) rfl (by decide)]
  rw [zs_aload_n (ls := [some (.ref 82), some (.int v1), o2, o3]) zd_107_187 rfl]
  obtain ⟨r7, hr7, H⟩ := Option.bind_eq_some_iff.mp H
  rw [zp_callVv (st := [.ref 82]) (as := [.ref 82]) (rest := []) (e := 2) zd_107_188 rfl (by decide +kernel) (by decide) rfl rfl (Nat.le_of_ble_eq_true rfl) (zx_rcb_ok rfl (show 82 < 119 by decide)) (Nat.le_of_ble_eq_true rfl) rfl (by decide) (zt_M_next hr7)]
  rw [zs_aload_n (ls := [some (.ref 82), some (.int v1), o2, o3]) zd_107_191 rfl]
  rw [zs_getR (n := 119) (K := zx_pk (zK L) 119) (ρ := zR) (c := 12) (k := 42) (q := 82) (p := 103) zd_107_192 rfl rfl rfl (by decide) rfl]
  rw [zs_iload_n (ls := [some (.ref 82), some (.int v1), o2, o3]) zd_107_195 rfl]
  by_cases c8 : 0 ≤ v1 ∧ v1 < 10
  · rw [if_pos c8] at H
    rw [zp_iaload (n := 119) (K := zx_pk (zK L) 119) (σ := r7) (q := 103) (m := 10) (i := v1) (k := v1.toNatClampNeg) (v := (r7 103 v1.toNatClampNeg)) zd_107_196 rfl (by decide) (zJ_in c8 rfl) rfl rfl]
    rw [zs_iconst (z := 3) zd_107_197 (by decide)]
    by_cases c9 : ¬ (r7 103 v1.toNatClampNeg) = 3
    · rw [if_pos c9] at H
      rw [zp_icmp_ne_t (x := (r7 103 v1.toNatClampNeg)) (y := 3) (t := 270) zd_107_198 rfl c9]
      have H := Option.some.inj H
      subst H
      exact zs_return zd_107_270 (by decide +kernel)
    · rw [if_neg c9] at H
      rw [zp_icmp_ne_f (x := (r7 103 v1.toNatClampNeg)) (y := 3) (t := 270) zd_107_198 rfl c9]
      rw [zs_aload_n (ls := [some (.ref 82), some (.int v1), o2, o3]) zd_107_201 rfl]
      rw [zs_bipush (z := 6) zd_107_202 (by decide)]
      obtain ⟨r10, hr10, H⟩ := Option.bind_eq_some_iff.mp H
      rw [zp_callVi (x := r10) (st := [.int 6, .ref 82]) (as := [.ref 82, .int 6]) (rest := []) (e := 0) zd_107_204 rfl (by decide +kernel) (by decide) rfl rfl (Nat.le_of_ble_eq_true rfl) (zx_rcb_ok rfl (show 82 < 119 by decide)) (Nat.le_of_ble_eq_true rfl) rfl (by decide) (zt_M_isWord hr10)]
      by_cases c11 : r10 = 0
      · rw [if_pos c11] at H
        rw [zp_if_eq_t (x := r10) (t := 255) zd_107_207 rfl c11]
        rw [zs_aload_n (ls := [some (.ref 82), some (.int v1), o2, o3]) zd_107_255 rfl]
        rw [zs_aload_n (ls := [some (.ref 82), some (.int v1), o2, o3]) zd_107_256 rfl]
        rw [zs_aload_n (ls := [some (.ref 82), some (.int v1), o2, o3]) zd_107_257 rfl]
        rw [zs_getR (n := 119) (K := zx_pk (zK L) 119) (ρ := zR) (c := 12) (k := 43) (q := 82) (p := 104) zd_107_258 rfl rfl rfl (by decide) rfl]
        rw [zs_iload_n (ls := [some (.ref 82), some (.int v1), o2, o3]) zd_107_261 rfl]
        by_cases c12 : 0 ≤ v1 ∧ v1 < 10
        · rw [if_pos c12] at H
          rw [zp_iaload (n := 119) (K := zx_pk (zK L) 119) (σ := r7) (q := 104) (m := 10) (i := v1) (k := v1.toNatClampNeg) (v := (r7 104 v1.toNatClampNeg)) zd_107_262 rfl (by decide) (zJ_in c12 rfl) rfl rfl]
          rw [zs_iconst (z := 1) zd_107_263 (by decide)]
          obtain ⟨r13, hr13, H⟩ := Option.bind_eq_some_iff.mp H
          rw [zp_callVi (x := r13.1) (st := [.int 1, .int (r7 104 v1.toNatClampNeg), .ref 82, .ref 82]) (as := [.ref 82, .int (r7 104 v1.toNatClampNeg), .int 1]) (rest := [.ref 82]) (e := 0) zd_107_264 rfl (by decide +kernel) (by decide) rfl rfl (Nat.le_of_ble_eq_true rfl) (zx_rcb_ok rfl (show 82 < 119 by decide)) (Nat.le_of_ble_eq_true rfl) rfl (by decide) (zt_M_wayOf hr13)]
          obtain ⟨r14, hr14, H⟩ := Option.bind_eq_some_iff.mp H
          rw [zp_callVv (st := [.int r13.1, .ref 82]) (as := [.ref 82, .int r13.1]) (rest := []) (e := 0) zd_107_267 rfl (by decide +kernel) (by decide) rfl rfl (Nat.le_of_ble_eq_true rfl) (zx_rcb_ok rfl (show 82 < 119 by decide)) (Nat.le_of_ble_eq_true rfl) rfl (by decide) (zt_M_joinOpen hr14)]
          have H := Option.some.inj H
          subst H
          exact zs_return zd_107_270 (by decide +kernel)
        · rw [if_neg c12] at H
          cases H
      · rw [if_neg c11] at H
        rw [zp_if_eq_f (x := r10) (t := 255) zd_107_207 rfl c11]
        rw [zs_aload_n (ls := [some (.ref 82), some (.int v1), o2, o3]) zd_107_210 rfl]
        obtain ⟨r15, hr15, H⟩ := Option.bind_eq_some_iff.mp H
        rw [zp_callVv (st := [.ref 82]) (as := [.ref 82]) (rest := []) (e := 2) zd_107_211 rfl (by decide +kernel) (by decide) rfl rfl (Nat.le_of_ble_eq_true rfl) (zx_rcb_ok rfl (show 82 < 119 by decide)) (Nat.le_of_ble_eq_true rfl) rfl (by decide) (zt_M_next hr15)]
        rw [zs_aload_n (ls := [some (.ref 82), some (.int v1), o2, o3]) zd_107_214 rfl]
        rw [zp_getI (n := 119) (K := zx_pk (zK L) 119) (σ := r15) (c := 12) (k := 37) (q := 82) (v := (r15 82 37)) zd_107_215 rfl rfl rfl (by decide) rfl]
        rw [zs_istore_n (x := (r15 82 37)) (ls' := [some (.ref 82), some (.int v1), (zJ_cl o2), some (.int (r15 82 37))]) zd_107_218 (Nat.le_of_ble_eq_true rfl) (zJ_s1 (k := 2) (o := o2) rfl)]
        rw [zs_aload_n (ls := [some (.ref 82), some (.int v1), (zJ_cl o2), some (.int (r15 82 37))]) zd_107_219 rfl]
        rw [zs_aload_n (ls := [some (.ref 82), some (.int v1), (zJ_cl o2), some (.int (r15 82 37))]) zd_107_220 rfl]
        rw [zs_aload_n (ls := [some (.ref 82), some (.int v1), (zJ_cl o2), some (.int (r15 82 37))]) zd_107_221 rfl]
        rw [zs_getR (n := 119) (K := zx_pk (zK L) 119) (ρ := zR) (c := 12) (k := 43) (q := 82) (p := 104) zd_107_222 rfl rfl rfl (by decide) rfl]
        rw [zs_iload_n (ls := [some (.ref 82), some (.int v1), (zJ_cl o2), some (.int (r15 82 37))]) zd_107_225 rfl]
        by_cases c16 : 0 ≤ v1 ∧ v1 < 10
        · rw [if_pos c16] at H
          rw [zp_iaload (n := 119) (K := zx_pk (zK L) 119) (σ := r15) (q := 104) (m := 10) (i := v1) (k := v1.toNatClampNeg) (v := (r15 104 v1.toNatClampNeg)) zd_107_226 rfl (by decide) (zJ_in c16 rfl) rfl rfl]
          rw [zs_iconst (z := 1) zd_107_227 (by decide)]
          obtain ⟨r17, hr17, H⟩ := Option.bind_eq_some_iff.mp H
          rw [zp_callVi (x := r17.1) (st := [.int 1, .int (r15 104 v1.toNatClampNeg), .ref 82, .ref 82]) (as := [.ref 82, .int (r15 104 v1.toNatClampNeg), .int 1]) (rest := [.ref 82]) (e := 0) zd_107_228 rfl (by decide +kernel) (by decide) rfl rfl (Nat.le_of_ble_eq_true rfl) (zx_rcb_ok rfl (show 82 < 119 by decide)) (Nat.le_of_ble_eq_true rfl) rfl (by decide) (zt_M_wayOf hr17)]
          rw [zs_putI (n := 119) (K := zx_pk (zK L) 119) (c := 12) (k := 37) (q := 82) (x := r17.1) zd_107_231 rfl rfl (by decide +kernel) rfl (by decide)]
          rw [zs_aload_n (ls := [some (.ref 82), some (.int v1), (zJ_cl o2), some (.int (r15 82 37))]) zd_107_234 rfl]
          rw [zs_iconst (z := 4) zd_107_235 (by decide)]
          rw [zs_aload_n (ls := [some (.ref 82), some (.int v1), (zJ_cl o2), some (.int (r15 82 37))]) zd_107_236 rfl]
          rw [zs_getR (n := 119) (K := zx_pk (zK L) 119) (ρ := zR) (c := 12) (k := 43) (q := 82) (p := 104) zd_107_237 rfl rfl rfl (by decide) rfl]
          rw [zs_iload_n (ls := [some (.ref 82), some (.int v1), (zJ_cl o2), some (.int (r15 82 37))]) zd_107_240 rfl]
          by_cases c18 : 0 ≤ v1 ∧ v1 < 10
          · rw [if_pos c18] at H
            rw [zp_iaload (n := 119) (K := zx_pk (zK L) 119) (σ := (zx_up r17.2 82 37 r17.1)) (q := 104) (m := 10) (i := v1) (k := v1.toNatClampNeg) (v := (r17.2 104 v1.toNatClampNeg)) zd_107_241 rfl (by decide) (zJ_in c18 rfl) rfl (show ((zx_up r17.2 82 37 r17.1) : zS) 104 v1.toNatClampNeg = (r17.2 104 v1.toNatClampNeg) from ((zx_up_ne (by decide)).trans rfl))]
            obtain ⟨r19, hr19, H⟩ := Option.bind_eq_some_iff.mp H
            rw [zp_callVv (st := [.int (r17.2 104 v1.toNatClampNeg), .int 4, .ref 82]) (as := [.ref 82, .int 4, .int (r17.2 104 v1.toNatClampNeg)]) (rest := []) (e := 3) zd_107_242 rfl (by decide +kernel) (by decide) rfl rfl (Nat.le_of_ble_eq_true rfl) (zx_rcb_ok rfl (show 82 < 119 by decide)) (Nat.le_of_ble_eq_true rfl) rfl (by decide) (zt_M_openBlock hr19)]
            rw [zs_aload_n (ls := [some (.ref 82), some (.int v1), (zJ_cl o2), some (.int (r15 82 37))]) zd_107_245 rfl]
            rw [zs_getR (n := 119) (K := zx_pk (zK L) 119) (ρ := zR) (c := 12) (k := 44) (q := 82) (p := 105) zd_107_246 rfl rfl rfl (by decide) rfl]
            rw [zs_iload_n (ls := [some (.ref 82), some (.int v1), (zJ_cl o2), some (.int (r15 82 37))]) zd_107_249 rfl]
            rw [zs_iload_n (ls := [some (.ref 82), some (.int v1), (zJ_cl o2), some (.int (r15 82 37))]) zd_107_250 rfl]
            by_cases c20 : 0 ≤ v1 ∧ v1 < 10
            · rw [if_pos c20] at H
              rw [zp_iastore (n := 119) (K := zx_pk (zK L) 119) (q := 105) (m := 10) (i := v1) (k := v1.toNatClampNeg) (x := (r15 82 37)) (z := (r15 82 37)) zd_107_251 rfl ⟨by decide, by decide⟩ (zJ_in c20 rfl) rfl rfl]
              rw [zs_goto (t := 270) zd_107_252 rfl]
              have H := Option.some.inj H
              subst H
              exact zs_return zd_107_270 (by decide +kernel)
            · rw [if_neg c20] at H
              cases H
          · rw [if_neg c18] at H
            cases H
        · rw [if_neg c16] at H
          cases H
  · rw [if_neg c8] at H
    cases H
set_option maxRecDepth 20000 in
theorem zt_M_closeBlock {a b L N : Nat} {σ : zS} {τ : zT} {r : zS} (H : zf_M_closeBlock N σ = some r) : zx_go 4 107 0 [some (.ref 82), none, none, none] [] ((119, a, b), zx_pk (zK L) 119, σ, τ, zR) = some (none, ((119, a, b), zx_pk (zK L) 119, r, τ, zR)) := by
  unfold zf_M_closeBlock at H
  rw [zs_aload_n (ls := [some (.ref 82), none, none, none]) zd_107_0 rfl]
  rw [zp_getI (n := 119) (K := zx_pk (zK L) 119) (σ := σ) (c := 12) (k := 46) (q := 82) (v := (σ 82 46)) zd_107_1 rfl rfl rfl (by decide) rfl]
  rw [zs_iconst (z := 1) zd_107_4 (by decide)]
  rw [zp_isub (x := (σ 82 46)) (y := 1) (z := ((σ 82 46) - 1)) zd_107_5 rfl]
  rw [zs_istore_n (x := ((σ 82 46) - 1)) (ls' := [some (.ref 82), some (.int ((σ 82 46) - 1)), none, none]) zd_107_6 (Nat.le_of_ble_eq_true rfl) rfl]
  rw [zs_bipush (z := 24) zd_107_7 (by decide)]
  rw [zs_aload_n (ls := [some (.ref 82), some (.int ((σ 82 46) - 1)), none, none]) zd_107_9 rfl]
  rw [zp_getI (n := 119) (K := zx_pk (zK L) 119) (σ := σ) (c := 12) (k := 39) (q := 82) (v := (σ 82 39)) zd_107_10 rfl rfl rfl (by decide) rfl]
  rw [zp_imul (x := 24) (y := (σ 82 39)) (z := (24 * (σ 82 39))) zd_107_13 rfl]
  rw [zs_istore_n (x := (24 * (σ 82 39))) (ls' := [some (.ref 82), some (.int ((σ 82 46) - 1)), some (.int (24 * (σ 82 39))), none]) zd_107_14 (Nat.le_of_ble_eq_true rfl) rfl]
  rw [zs_aload_n (ls := [some (.ref 82), some (.int ((σ 82 46) - 1)), some (.int (24 * (σ 82 39))), none]) zd_107_15 rfl]
  rw [zs_getR (n := 119) (K := zx_pk (zK L) 119) (ρ := zR) (c := 12) (k := 42) (q := 82) (p := 103) zd_107_16 rfl rfl rfl (by decide) rfl]
  rw [zs_iload_n (ls := [some (.ref 82), some (.int ((σ 82 46) - 1)), some (.int (24 * (σ 82 39))), none]) zd_107_19 rfl]
  by_cases c1 : 0 ≤ ((σ 82 46) - 1) ∧ ((σ 82 46) - 1) < 10
  · rw [if_pos c1] at H
    rw [zp_iaload (n := 119) (K := zx_pk (zK L) 119) (σ := σ) (q := 103) (m := 10) (i := ((σ 82 46) - 1)) (k := ((σ 82 46) - 1).toNatClampNeg) (v := (σ 103 ((σ 82 46) - 1).toNatClampNeg)) zd_107_20 rfl (by decide) (zJ_in c1 rfl) rfl rfl]
    by_cases c2 : (σ 103 ((σ 82 46) - 1).toNatClampNeg) = 1
    · rw [if_pos c2] at H
      rw [zs_table (x := (σ 103 ((σ 82 46) - 1).toNatClampNeg)) (off := 35) (t := 56) zd_107_21 (by rw [c2]; decide) rfl]
      rw [zs_aload_n (ls := [some (.ref 82), some (.int ((σ 82 46) - 1)), some (.int (24 * (σ 82 39))), none]) zd_107_56 rfl]
      rw [zs_iconst (z := 4) zd_107_57 (by decide)]
      rw [zs_aload_n (ls := [some (.ref 82), some (.int ((σ 82 46) - 1)), some (.int (24 * (σ 82 39))), none]) zd_107_58 rfl]
      rw [zs_getR (n := 119) (K := zx_pk (zK L) 119) (ρ := zR) (c := 12) (k := 28) (q := 82) (p := 93) zd_107_59 rfl rfl rfl (by decide) rfl]
      rw [zs_iload_n (ls := [some (.ref 82), some (.int ((σ 82 46) - 1)), some (.int (24 * (σ 82 39))), none]) zd_107_62 rfl]
      rw [zs_aload_n (ls := [some (.ref 82), some (.int ((σ 82 46) - 1)), some (.int (24 * (σ 82 39))), none]) zd_107_63 rfl]
      rw [zs_getR (n := 119) (K := zx_pk (zK L) 119) (ρ := zR) (c := 12) (k := 43) (q := 82) (p := 104) zd_107_64 rfl rfl rfl (by decide) rfl]
      rw [zs_iload_n (ls := [some (.ref 82), some (.int ((σ 82 46) - 1)), some (.int (24 * (σ 82 39))), none]) zd_107_67 rfl]
      by_cases c27 : 0 ≤ ((σ 82 46) - 1) ∧ ((σ 82 46) - 1) < 10
      · rw [if_pos c27] at H
        rw [zp_iaload (n := 119) (K := zx_pk (zK L) 119) (σ := σ) (q := 104) (m := 10) (i := ((σ 82 46) - 1)) (k := ((σ 82 46) - 1).toNatClampNeg) (v := (σ 104 ((σ 82 46) - 1).toNatClampNeg)) zd_107_68 rfl (by decide) (zJ_in c27 rfl) rfl rfl]
        rw [zp_iadd (x := (24 * (σ 82 39))) (y := (σ 104 ((σ 82 46) - 1).toNatClampNeg)) (z := ((24 * (σ 82 39)) + (σ 104 ((σ 82 46) - 1).toNatClampNeg))) zd_107_69 rfl]
        by_cases c28 : 0 ≤ ((24 * (σ 82 39)) + (σ 104 ((σ 82 46) - 1).toNatClampNeg)) ∧ ((24 * (σ 82 39)) + (σ 104 ((σ 82 46) - 1).toNatClampNeg)) < 96
        · rw [if_pos c28] at H
          rw [zp_iaload (n := 119) (K := zx_pk (zK L) 119) (σ := σ) (q := 93) (m := 96) (i := ((24 * (σ 82 39)) + (σ 104 ((σ 82 46) - 1).toNatClampNeg))) (k := ((24 * (σ 82 39)) + (σ 104 ((σ 82 46) - 1).toNatClampNeg)).toNatClampNeg) (v := (σ 93 ((24 * (σ 82 39)) + (σ 104 ((σ 82 46) - 1).toNatClampNeg)).toNatClampNeg)) zd_107_70 rfl (by decide) (zJ_in c28 rfl) rfl rfl]
          obtain ⟨r29, hr29, H⟩ := Option.bind_eq_some_iff.mp H
          rw [zp_callVi (x := r29.1) (st := [.int (σ 93 ((24 * (σ 82 39)) + (σ 104 ((σ 82 46) - 1).toNatClampNeg)).toNatClampNeg), .int 4, .ref 82]) (as := [.ref 82, .int 4, .int (σ 93 ((24 * (σ 82 39)) + (σ 104 ((σ 82 46) - 1).toNatClampNeg)).toNatClampNeg)]) (rest := []) (e := 1) zd_107_71 rfl (by decide +kernel) (by decide) rfl rfl (Nat.le_of_ble_eq_true rfl) (zx_rcb_ok rfl (show 82 < 119 by decide)) (Nat.le_of_ble_eq_true rfl) rfl (by decide) (zt_M_addStep hr29)]
          rw [zs_istore_n (x := r29.1) (ls' := [some (.ref 82), some (.int ((σ 82 46) - 1)), some (.int (24 * (σ 82 39))), some (.int r29.1)]) zd_107_74 (Nat.le_of_ble_eq_true rfl) rfl]
          rw [zs_aload_n (ls := [some (.ref 82), some (.int ((σ 82 46) - 1)), some (.int (24 * (σ 82 39))), some (.int r29.1)]) zd_107_75 rfl]
          rw [zp_getZ (n := 119) (K := zx_pk (zK L) 119) (σ := r29.2) (c := 12) (k := 9) (q := 82) (v := (r29.2 82 9)) zd_107_76 rfl rfl rfl (by decide) rfl]
          by_cases c30 : (r29.2 82 9) = 0
          · rw [if_pos c30] at H
            rw [zp_if_eq_t (x := (r29.2 82 9)) (t := 83) zd_107_79 rfl c30]
            rw [zs_aload_n (ls := [some (.ref 82), some (.int ((σ 82 46) - 1)), some (.int (24 * (σ 82 39))), some (.int r29.1)]) zd_107_83 rfl]
            rw [zs_aload_n (ls := [some (.ref 82), some (.int ((σ 82 46) - 1)), some (.int (24 * (σ 82 39))), some (.int r29.1)]) zd_107_84 rfl]
            rw [zs_getR (n := 119) (K := zx_pk (zK L) 119) (ρ := zR) (c := 12) (k := 45) (q := 82) (p := 106) zd_107_85 rfl rfl rfl (by decide) rfl]
            rw [zs_iload_n (ls := [some (.ref 82), some (.int ((σ 82 46) - 1)), some (.int (24 * (σ 82 39))), some (.int r29.1)]) zd_107_88 rfl]
            by_cases c31 : 0 ≤ ((σ 82 46) - 1) ∧ ((σ 82 46) - 1) < 10
            · rw [if_pos c31] at H
              rw [zp_iaload (n := 119) (K := zx_pk (zK L) 119) (σ := r29.2) (q := 106) (m := 10) (i := ((σ 82 46) - 1)) (k := ((σ 82 46) - 1).toNatClampNeg) (v := (r29.2 106 ((σ 82 46) - 1).toNatClampNeg)) zd_107_89 rfl (by decide) (zJ_in c31 rfl) rfl rfl]
              rw [zs_iconst (z := 1) zd_107_90 (by decide)]
              rw [zs_aload_n (ls := [some (.ref 82), some (.int ((σ 82 46) - 1)), some (.int (24 * (σ 82 39))), some (.int r29.1)]) zd_107_91 rfl]
              rw [zs_getR (n := 119) (K := zx_pk (zK L) 119) (ρ := zR) (c := 12) (k := 28) (q := 82) (p := 93) zd_107_92 rfl rfl rfl (by decide) rfl]
              rw [zs_iload_n (ls := [some (.ref 82), some (.int ((σ 82 46) - 1)), some (.int (24 * (σ 82 39))), some (.int r29.1)]) zd_107_95 rfl]
              rw [zs_aload_n (ls := [some (.ref 82), some (.int ((σ 82 46) - 1)), some (.int (24 * (σ 82 39))), some (.int r29.1)]) zd_107_96 rfl]
              rw [zs_getR (n := 119) (K := zx_pk (zK L) 119) (ρ := zR) (c := 12) (k := 43) (q := 82) (p := 104) zd_107_97 rfl rfl rfl (by decide) rfl]
              rw [zs_iload_n (ls := [some (.ref 82), some (.int ((σ 82 46) - 1)), some (.int (24 * (σ 82 39))), some (.int r29.1)]) zd_107_100 rfl]
              by_cases c32 : 0 ≤ ((σ 82 46) - 1) ∧ ((σ 82 46) - 1) < 10
              · rw [if_pos c32] at H
                rw [zp_iaload (n := 119) (K := zx_pk (zK L) 119) (σ := r29.2) (q := 104) (m := 10) (i := ((σ 82 46) - 1)) (k := ((σ 82 46) - 1).toNatClampNeg) (v := (r29.2 104 ((σ 82 46) - 1).toNatClampNeg)) zd_107_101 rfl (by decide) (zJ_in c32 rfl) rfl rfl]
                rw [zp_iadd (x := (24 * (σ 82 39))) (y := (r29.2 104 ((σ 82 46) - 1).toNatClampNeg)) (z := ((24 * (σ 82 39)) + (r29.2 104 ((σ 82 46) - 1).toNatClampNeg))) zd_107_102 rfl]
                by_cases c33 : 0 ≤ ((24 * (σ 82 39)) + (r29.2 104 ((σ 82 46) - 1).toNatClampNeg)) ∧ ((24 * (σ 82 39)) + (r29.2 104 ((σ 82 46) - 1).toNatClampNeg)) < 96
                · rw [if_pos c33] at H
                  rw [zp_iaload (n := 119) (K := zx_pk (zK L) 119) (σ := r29.2) (q := 93) (m := 96) (i := ((24 * (σ 82 39)) + (r29.2 104 ((σ 82 46) - 1).toNatClampNeg))) (k := ((24 * (σ 82 39)) + (r29.2 104 ((σ 82 46) - 1).toNatClampNeg)).toNatClampNeg) (v := (r29.2 93 ((24 * (σ 82 39)) + (r29.2 104 ((σ 82 46) - 1).toNatClampNeg)).toNatClampNeg)) zd_107_103 rfl (by decide) (zJ_in c33 rfl) rfl rfl]
                  rw [zp_ishl (x := 1) (y := (r29.2 93 ((24 * (σ 82 39)) + (r29.2 104 ((σ 82 46) - 1).toNatClampNeg)).toNatClampNeg)) (z := (zJ_shl 1 (r29.2 93 ((24 * (σ 82 39)) + (r29.2 104 ((σ 82 46) - 1).toNatClampNeg)).toNatClampNeg))) zd_107_104 rfl]
                  rw [zs_iconst (z := (-1)) zd_107_105 (by decide)]
                  rw [zp_ixor (x := (zJ_shl 1 (r29.2 93 ((24 * (σ 82 39)) + (r29.2 104 ((σ 82 46) - 1).toNatClampNeg)).toNatClampNeg))) (y := (-1)) (z := ((zJ_shl 1 (r29.2 93 ((24 * (σ 82 39)) + (r29.2 104 ((σ 82 46) - 1).toNatClampNeg)).toNatClampNeg)) ^^^ (-1))) zd_107_106 rfl]
                  rw [zp_iand (x := (r29.2 106 ((σ 82 46) - 1).toNatClampNeg)) (y := ((zJ_shl 1 (r29.2 93 ((24 * (σ 82 39)) + (r29.2 104 ((σ 82 46) - 1).toNatClampNeg)).toNatClampNeg)) ^^^ (-1))) (z := ((r29.2 106 ((σ 82 46) - 1).toNatClampNeg) &&& ((zJ_shl 1 (r29.2 93 ((24 * (σ 82 39)) + (r29.2 104 ((σ 82 46) - 1).toNatClampNeg)).toNatClampNeg)) ^^^ (-1)))) zd_107_107 rfl]
                  rw [zs_aload_n (ls := [some (.ref 82), some (.int ((σ 82 46) - 1)), some (.int (24 * (σ 82 39))), some (.int r29.1)]) zd_107_108 rfl]
                  rw [zs_getR (n := 119) (K := zx_pk (zK L) 119) (ρ := zR) (c := 12) (k := 31) (q := 82) (p := 96) zd_107_109 rfl rfl rfl (by decide) rfl]
                  rw [zs_iload_n (ls := [some (.ref 82), some (.int ((σ 82 46) - 1)), some (.int (24 * (σ 82 39))), some (.int r29.1)]) zd_107_112 rfl]
                  rw [zs_aload_n (ls := [some (.ref 82), some (.int ((σ 82 46) - 1)), some (.int (24 * (σ 82 39))), some (.int r29.1)]) zd_107_113 rfl]
                  rw [zs_getR (n := 119) (K := zx_pk (zK L) 119) (ρ := zR) (c := 12) (k := 43) (q := 82) (p := 104) zd_107_114 rfl rfl rfl (by decide) rfl]
                  rw [zs_iload_n (ls := [some (.ref 82), some (.int ((σ 82 46) - 1)), some (.int (24 * (σ 82 39))), some (.int r29.1)]) zd_107_117 rfl]
                  by_cases c34 : 0 ≤ ((σ 82 46) - 1) ∧ ((σ 82 46) - 1) < 10
                  · rw [if_pos c34] at H
                    rw [zp_iaload (n := 119) (K := zx_pk (zK L) 119) (σ := r29.2) (q := 104) (m := 10) (i := ((σ 82 46) - 1)) (k := ((σ 82 46) - 1).toNatClampNeg) (v := (r29.2 104 ((σ 82 46) - 1).toNatClampNeg)) zd_107_118 rfl (by decide) (zJ_in c34 rfl) rfl rfl]
                    rw [zp_iadd (x := (24 * (σ 82 39))) (y := (r29.2 104 ((σ 82 46) - 1).toNatClampNeg)) (z := ((24 * (σ 82 39)) + (r29.2 104 ((σ 82 46) - 1).toNatClampNeg))) zd_107_119 rfl]
                    by_cases c35 : 0 ≤ ((24 * (σ 82 39)) + (r29.2 104 ((σ 82 46) - 1).toNatClampNeg)) ∧ ((24 * (σ 82 39)) + (r29.2 104 ((σ 82 46) - 1).toNatClampNeg)) < 96
                    · rw [if_pos c35] at H
                      rw [zp_iaload (n := 119) (K := zx_pk (zK L) 119) (σ := r29.2) (q := 96) (m := 96) (i := ((24 * (σ 82 39)) + (r29.2 104 ((σ 82 46) - 1).toNatClampNeg))) (k := ((24 * (σ 82 39)) + (r29.2 104 ((σ 82 46) - 1).toNatClampNeg)).toNatClampNeg) (v := (r29.2 96 ((24 * (σ 82 39)) + (r29.2 104 ((σ 82 46) - 1).toNatClampNeg)).toNatClampNeg)) zd_107_120 rfl (by decide) (zJ_in c35 rfl) rfl rfl]
                      rw [zp_ior (x := ((r29.2 106 ((σ 82 46) - 1).toNatClampNeg) &&& ((zJ_shl 1 (r29.2 93 ((24 * (σ 82 39)) + (r29.2 104 ((σ 82 46) - 1).toNatClampNeg)).toNatClampNeg)) ^^^ (-1)))) (y := (r29.2 96 ((24 * (σ 82 39)) + (r29.2 104 ((σ 82 46) - 1).toNatClampNeg)).toNatClampNeg)) (z := (((r29.2 106 ((σ 82 46) - 1).toNatClampNeg) &&& ((zJ_shl 1 (r29.2 93 ((24 * (σ 82 39)) + (r29.2 104 ((σ 82 46) - 1).toNatClampNeg)).toNatClampNeg)) ^^^ (-1))) ||| (r29.2 96 ((24 * (σ 82 39)) + (r29.2 104 ((σ 82 46) - 1).toNatClampNeg)).toNatClampNeg))) zd_107_121 rfl]
                      rw [zs_putI (n := 119) (K := zx_pk (zK L) 119) (c := 12) (k := 40) (q := 82) (x := (((r29.2 106 ((σ 82 46) - 1).toNatClampNeg) &&& ((zJ_shl 1 (r29.2 93 ((24 * (σ 82 39)) + (r29.2 104 ((σ 82 46) - 1).toNatClampNeg)).toNatClampNeg)) ^^^ (-1))) ||| (r29.2 96 ((24 * (σ 82 39)) + (r29.2 104 ((σ 82 46) - 1).toNatClampNeg)).toNatClampNeg))) zd_107_122 rfl rfl (by decide +kernel) rfl (by decide)]
                      rw [zs_goto (t := 177) zd_107_125 rfl]
                      exact zt_M_closeBlock_177  H
                    · rw [if_neg c35] at H
                      cases H
                  · rw [if_neg c34] at H
                    cases H
                · rw [if_neg c33] at H
                  cases H
              · rw [if_neg c32] at H
                cases H
            · rw [if_neg c31] at H
              cases H
          · rw [if_neg c30] at H
            rw [zp_if_eq_f (x := (r29.2 82 9)) (t := 83) zd_107_79 rfl c30]
            have H := Option.some.inj H
            subst H
            exact zs_return zd_107_82 (by decide +kernel)
        · rw [if_neg c28] at H
          cases H
      · rw [if_neg c27] at H
        cases H
    · rw [if_neg c2] at H
      by_cases c3 : (σ 103 ((σ 82 46) - 1).toNatClampNeg) = 2
      · rw [if_pos c3] at H
        rw [zs_table (x := (σ 103 ((σ 82 46) - 1).toNatClampNeg)) (off := 107) (t := 128) zd_107_21 (by rw [c3]; decide) rfl]
        rw [zs_aload_n (ls := [some (.ref 82), some (.int ((σ 82 46) - 1)), some (.int (24 * (σ 82 39))), none]) zd_107_128 rfl]
        rw [zs_iconst (z := (-1)) zd_107_129 (by decide)]
        rw [zs_putI (n := 119) (K := zx_pk (zK L) 119) (c := 12) (k := 41) (q := 82) (x := (-1)) zd_107_130 rfl rfl (by decide +kernel) rfl (by decide)]
        rw [zs_goto (t := 177) zd_107_133 rfl]
        exact zt_M_closeBlock_177  H
      · rw [if_neg c3] at H
        by_cases c4 : (σ 103 ((σ 82 46) - 1).toNatClampNeg) = 3
        · rw [if_pos c4] at H
          rw [zs_table (x := (σ 103 ((σ 82 46) - 1).toNatClampNeg)) (off := 156) (t := 177) zd_107_21 (by rw [c4]; decide) rfl]
          exact zt_M_closeBlock_177  H
        · rw [if_neg c4] at H
          by_cases c5 : (σ 103 ((σ 82 46) - 1).toNatClampNeg) = 4
          · rw [if_pos c5] at H
            rw [zs_table (x := (σ 103 ((σ 82 46) - 1).toNatClampNeg)) (off := 143) (t := 164) zd_107_21 (by rw [c5]; decide) rfl]
            rw [zs_aload_n (ls := [some (.ref 82), some (.int ((σ 82 46) - 1)), some (.int (24 * (σ 82 39))), none]) zd_107_164 rfl]
            rw [zs_aload_n (ls := [some (.ref 82), some (.int ((σ 82 46) - 1)), some (.int (24 * (σ 82 39))), none]) zd_107_165 rfl]
            rw [zs_getR (n := 119) (K := zx_pk (zK L) 119) (ρ := zR) (c := 12) (k := 44) (q := 82) (p := 105) zd_107_166 rfl rfl rfl (by decide) rfl]
            rw [zs_iload_n (ls := [some (.ref 82), some (.int ((σ 82 46) - 1)), some (.int (24 * (σ 82 39))), none]) zd_107_169 rfl]
            by_cases c25 : 0 ≤ ((σ 82 46) - 1) ∧ ((σ 82 46) - 1) < 10
            · rw [if_pos c25] at H
              rw [zp_iaload (n := 119) (K := zx_pk (zK L) 119) (σ := σ) (q := 105) (m := 10) (i := ((σ 82 46) - 1)) (k := ((σ 82 46) - 1).toNatClampNeg) (v := (σ 105 ((σ 82 46) - 1).toNatClampNeg)) zd_107_170 rfl (by decide) (zJ_in c25 rfl) rfl rfl]
              obtain ⟨r26, hr26, H⟩ := Option.bind_eq_some_iff.mp H
              rw [zp_callVv (st := [.int (σ 105 ((σ 82 46) - 1).toNatClampNeg), .ref 82]) (as := [.ref 82, .int (σ 105 ((σ 82 46) - 1).toNatClampNeg)]) (rest := []) (e := 0) zd_107_171 rfl (by decide +kernel) (by decide) rfl rfl (Nat.le_of_ble_eq_true rfl) (zx_rcb_ok rfl (show 82 < 119 by decide)) (Nat.le_of_ble_eq_true rfl) rfl (by decide) (zt_M_joinOpen hr26)]
              rw [zs_goto (t := 177) zd_107_174 rfl]
              exact zt_M_closeBlock_177  H
            · rw [if_neg c25] at H
              cases H
          · rw [if_neg c5] at H
            by_cases c6 : (σ 103 ((σ 82 46) - 1).toNatClampNeg) = 5
            · rw [if_pos c6] at H
              rw [zs_table (x := (σ 103 ((σ 82 46) - 1).toNatClampNeg)) (off := 115) (t := 136) zd_107_21 (by rw [c6]; decide) rfl]
              rw [zs_aload_n (ls := [some (.ref 82), some (.int ((σ 82 46) - 1)), some (.int (24 * (σ 82 39))), none]) zd_107_136 rfl]
              rw [zs_aload_n (ls := [some (.ref 82), some (.int ((σ 82 46) - 1)), some (.int (24 * (σ 82 39))), none]) zd_107_137 rfl]
              rw [zs_getR (n := 119) (K := zx_pk (zK L) 119) (ρ := zR) (c := 12) (k := 43) (q := 82) (p := 104) zd_107_138 rfl rfl rfl (by decide) rfl]
              rw [zs_iload_n (ls := [some (.ref 82), some (.int ((σ 82 46) - 1)), some (.int (24 * (σ 82 39))), none]) zd_107_141 rfl]
              by_cases c21 : 0 ≤ ((σ 82 46) - 1) ∧ ((σ 82 46) - 1) < 10
              · rw [if_pos c21] at H
                rw [zp_iaload (n := 119) (K := zx_pk (zK L) 119) (σ := σ) (q := 104) (m := 10) (i := ((σ 82 46) - 1)) (k := ((σ 82 46) - 1).toNatClampNeg) (v := (σ 104 ((σ 82 46) - 1).toNatClampNeg)) zd_107_142 rfl (by decide) (zJ_in c21 rfl) rfl rfl]
                obtain ⟨r22, hr22, H⟩ := Option.bind_eq_some_iff.mp H
                rw [zp_callVv (st := [.int (σ 104 ((σ 82 46) - 1).toNatClampNeg), .ref 82]) (as := [.ref 82, .int (σ 104 ((σ 82 46) - 1).toNatClampNeg)]) (rest := []) (e := 0) zd_107_143 rfl (by decide +kernel) (by decide) rfl rfl (Nat.le_of_ble_eq_true rfl) (zx_rcb_ok rfl (show 82 < 119 by decide)) (Nat.le_of_ble_eq_true rfl) rfl (by decide) (zt_M_lead hr22)]
                rw [zs_aload_n (ls := [some (.ref 82), some (.int ((σ 82 46) - 1)), some (.int (24 * (σ 82 39))), none]) zd_107_146 rfl]
                rw [zs_aload_n (ls := [some (.ref 82), some (.int ((σ 82 46) - 1)), some (.int (24 * (σ 82 39))), none]) zd_107_147 rfl]
                rw [zs_aload_n (ls := [some (.ref 82), some (.int ((σ 82 46) - 1)), some (.int (24 * (σ 82 39))), none]) zd_107_148 rfl]
                rw [zs_getR (n := 119) (K := zx_pk (zK L) 119) (ρ := zR) (c := 12) (k := 43) (q := 82) (p := 104) zd_107_149 rfl rfl rfl (by decide) rfl]
                rw [zs_iload_n (ls := [some (.ref 82), some (.int ((σ 82 46) - 1)), some (.int (24 * (σ 82 39))), none]) zd_107_152 rfl]
                by_cases c23 : 0 ≤ ((σ 82 46) - 1) ∧ ((σ 82 46) - 1) < 10
                · rw [if_pos c23] at H
                  rw [zp_iaload (n := 119) (K := zx_pk (zK L) 119) (σ := r22) (q := 104) (m := 10) (i := ((σ 82 46) - 1)) (k := ((σ 82 46) - 1).toNatClampNeg) (v := (r22 104 ((σ 82 46) - 1).toNatClampNeg)) zd_107_153 rfl (by decide) (zJ_in c23 rfl) rfl rfl]
                  rw [zs_iconst (z := 1) zd_107_154 (by decide)]
                  obtain ⟨r24, hr24, H⟩ := Option.bind_eq_some_iff.mp H
                  rw [zp_callVi (x := r24.1) (st := [.int 1, .int (r22 104 ((σ 82 46) - 1).toNatClampNeg), .ref 82, .ref 82]) (as := [.ref 82, .int (r22 104 ((σ 82 46) - 1).toNatClampNeg), .int 1]) (rest := [.ref 82]) (e := 0) zd_107_155 rfl (by decide +kernel) (by decide) rfl rfl (Nat.le_of_ble_eq_true rfl) (zx_rcb_ok rfl (show 82 < 119 by decide)) (Nat.le_of_ble_eq_true rfl) rfl (by decide) (zt_M_wayOf hr24)]
                  rw [zs_putI (n := 119) (K := zx_pk (zK L) 119) (c := 12) (k := 37) (q := 82) (x := r24.1) zd_107_158 rfl rfl (by decide +kernel) rfl (by decide)]
                  rw [zs_goto (t := 177) zd_107_161 rfl]
                  exact zt_M_closeBlock_177  H
                · rw [if_neg c23] at H
                  cases H
              · rw [if_neg c21] at H
                cases H
            · rw [if_neg c6] at H
              rw [zs_table (x := (σ 103 ((σ 82 46) - 1).toNatClampNeg)) (off := 156) (t := 177) zd_107_21 (if_pos (by have e : ∀ z : Int32, ¬ (σ 103 ((σ 82 46) - 1).toNatClampNeg) = z → ¬ ((σ 103 ((σ 82 46) - 1).toNatClampNeg) : Int32).toInt = z.toInt := fun z h q => h (Int32.toInt_inj.mp q); have q0 := e 1 c2; have q1 := e 2 c3; have q2 := e 3 c4; have q3 := e 4 c5; have q4 := e 5 c6; simp only [show (1 : Int32).toInt = 1 from rfl, show (2 : Int32).toInt = 2 from rfl, show (3 : Int32).toInt = 3 from rfl, show (4 : Int32).toInt = 4 from rfl, show (5 : Int32).toInt = 5 from rfl] at q0 q1 q2 q3 q4; omega)) rfl]
              exact zt_M_closeBlock_177  H
  · rw [if_neg c1] at H
    cases H
set_option maxRecDepth 20000 in
theorem zt_M_readThread_235 {a b L N : Nat} {k178 : zS → Int32 → Option (zS)} (hk178 : ∀ {σ : zS} {τ : zT} {v1 : Int32} {o2 : Option Value} {r : zS}, k178 σ v1 = some r → zx_go 6 105 178 [some (.ref 82), some (.int v1), o2] [] ((119, a, b), zx_pk (zK L) 119, σ, τ, zR) = some (none, ((119, a, b), zx_pk (zK L) 119, r, τ, zR))) {σ : zS} {τ : zT} {v1 : Int32} {s0 : Int32} {s1 : Int32} {o2 : Option Value} {r : zS} (H : zb_M_readThread_235 k178 N σ v1 s0 s1 = some r) : zx_go 6 105 235 [some (.ref 82), some (.int v1), o2] [.int s0, .int s1, .ref 94] ((119, a, b), zx_pk (zK L) 119, σ, τ, zR) = some (none, ((119, a, b), zx_pk (zK L) 119, r, τ, zR)) := by
  unfold zb_M_readThread_235 at H
  by_cases c19 : 0 ≤ s1 ∧ s1 < 96
  · rw [if_pos c19] at H
    rw [zp_iastore (n := 119) (K := zx_pk (zK L) 119) (q := 94) (m := 96) (i := s1) (k := s1.toNatClampNeg) (x := s0) (z := s0) zd_105_235 rfl ⟨by decide, by decide⟩ (zJ_in c19 rfl) rfl rfl]
    rw [zs_iinc (ls := [some (.ref 82), some (.int v1), o2]) (x := v1) (z := (v1 + 1)) (ls' := [some (.ref 82), some (.int (v1 + 1)), o2]) zd_105_236 rfl rfl rfl]
    rw [zs_goto (t := 178) zd_105_239 rfl]
    exact hk178 H
  · rw [if_neg c19] at H
    cases H
set_option maxRecDepth 20000 in
theorem zt_M_readThread_178 {a b L N : Nat} : ∀ {n : Nat} {σ : zS} {τ : zT} {v1 : Int32} {o2 : Option Value} {r : zS}, zb_M_readThread_178 N n σ v1 = some r → zx_go 6 105 178 [some (.ref 82), some (.int v1), o2] [] ((119, a, b), zx_pk (zK L) 119, σ, τ, zR) = some (none, ((119, a, b), zx_pk (zK L) 119, r, τ, zR)) := by
  intro n
  induction n with
  | zero =>
    intro _ _ _ _ _ H
    cases H
  | succ n ih =>
    intro σ τ v1 o2 r H
    rw [zb_M_readThread_178] at H
    rw [zs_iload_n (ls := [some (.ref 82), some (.int v1), o2]) zd_105_178 rfl]
    rw [zs_aload_n (ls := [some (.ref 82), some (.int v1), o2]) zd_105_179 rfl]
    rw [zs_getR (n := 119) (K := zx_pk (zK L) 119) (ρ := zR) (c := 12) (k := 24) (q := 82) (p := 90) zd_105_180 rfl rfl rfl (by decide) rfl]
    rw [zs_aload_n (ls := [some (.ref 82), some (.int v1), o2]) zd_105_183 rfl]
    rw [zp_getI (n := 119) (K := zx_pk (zK L) 119) (σ := σ) (c := 12) (k := 39) (q := 82) (v := (σ 82 39)) zd_105_184 rfl rfl rfl (by decide) rfl]
    by_cases c14 : 0 ≤ (σ 82 39) ∧ (σ 82 39) < 4
    · rw [if_pos c14] at H
      rw [zp_iaload (n := 119) (K := zx_pk (zK L) 119) (σ := σ) (q := 90) (m := 4) (i := (σ 82 39)) (k := (σ 82 39).toNatClampNeg) (v := (σ 90 (σ 82 39).toNatClampNeg)) zd_105_187 rfl (by decide) (zJ_in c14 rfl) rfl rfl]
      by_cases c15 : (σ 90 (σ 82 39).toNatClampNeg) ≤ v1
      · rw [if_pos c15] at H
        rw [zp_icmp_ge_t (x := v1) (y := (σ 90 (σ 82 39).toNatClampNeg)) (t := 242) zd_105_188 rfl c15]
        have H := Option.some.inj H
        subst H
        exact zs_return zd_105_242 (by decide +kernel)
      · rw [if_neg c15] at H
        rw [zp_icmp_ge_f (x := v1) (y := (σ 90 (σ 82 39).toNatClampNeg)) (t := 242) zd_105_188 rfl c15]
        rw [zs_bipush (z := 24) zd_105_191 (by decide)]
        rw [zs_aload_n (ls := [some (.ref 82), some (.int v1), o2]) zd_105_193 rfl]
        rw [zp_getI (n := 119) (K := zx_pk (zK L) 119) (σ := σ) (c := 12) (k := 39) (q := 82) (v := (σ 82 39)) zd_105_194 rfl rfl rfl (by decide) rfl]
        rw [zp_imul (x := 24) (y := (σ 82 39)) (z := (24 * (σ 82 39))) zd_105_197 rfl]
        rw [zs_iload_n (ls := [some (.ref 82), some (.int v1), o2]) zd_105_198 rfl]
        rw [zp_iadd (x := (24 * (σ 82 39))) (y := v1) (z := ((24 * (σ 82 39)) + v1)) zd_105_199 rfl]
        rw [zs_istore_n (x := ((24 * (σ 82 39)) + v1)) (ls' := [some (.ref 82), some (.int v1), some (.int ((24 * (σ 82 39)) + v1))]) zd_105_200 (Nat.le_of_ble_eq_true rfl) rfl]
        rw [zs_aload_n (ls := [some (.ref 82), some (.int v1), some (.int ((24 * (σ 82 39)) + v1))]) zd_105_201 rfl]
        rw [zs_getR (n := 119) (K := zx_pk (zK L) 119) (ρ := zR) (c := 12) (k := 29) (q := 82) (p := 94) zd_105_202 rfl rfl rfl (by decide) rfl]
        rw [zs_iload_n (ls := [some (.ref 82), some (.int v1), some (.int ((24 * (σ 82 39)) + v1))]) zd_105_205 rfl]
        rw [zs_aload_n (ls := [some (.ref 82), some (.int v1), some (.int ((24 * (σ 82 39)) + v1))]) zd_105_206 rfl]
        rw [zs_getR (n := 119) (K := zx_pk (zK L) 119) (ρ := zR) (c := 12) (k := 27) (q := 82) (p := 92) zd_105_207 rfl rfl rfl (by decide) rfl]
        rw [zs_iload_n (ls := [some (.ref 82), some (.int v1), some (.int ((24 * (σ 82 39)) + v1))]) zd_105_210 rfl]
        by_cases c16 : 0 ≤ ((24 * (σ 82 39)) + v1) ∧ ((24 * (σ 82 39)) + v1) < 96
        · rw [if_pos c16] at H
          rw [zp_iaload (n := 119) (K := zx_pk (zK L) 119) (σ := σ) (q := 92) (m := 96) (i := ((24 * (σ 82 39)) + v1)) (k := ((24 * (σ 82 39)) + v1).toNatClampNeg) (v := (σ 92 ((24 * (σ 82 39)) + v1).toNatClampNeg)) zd_105_211 rfl (by decide) (zJ_in c16 rfl) rfl rfl]
          rw [zs_bipush (z := 13) zd_105_212 (by decide)]
          by_cases c17 : ¬ (σ 92 ((24 * (σ 82 39)) + v1).toNatClampNeg) = 13
          · rw [if_pos c17] at H
            rw [zp_icmp_ne_t (x := (σ 92 ((24 * (σ 82 39)) + v1).toNatClampNeg)) (y := 13) (t := 229) zd_105_214 rfl c17]
            rw [zs_aload_n (ls := [some (.ref 82), some (.int v1), some (.int ((24 * (σ 82 39)) + v1))]) zd_105_229 rfl]
            rw [zs_getR (n := 119) (K := zx_pk (zK L) 119) (ρ := zR) (c := 12) (k := 29) (q := 82) (p := 94) zd_105_230 rfl rfl rfl (by decide) rfl]
            rw [zs_iload_n (ls := [some (.ref 82), some (.int v1), some (.int ((24 * (σ 82 39)) + v1))]) zd_105_233 rfl]
            by_cases c18 : 0 ≤ ((24 * (σ 82 39)) + v1) ∧ ((24 * (σ 82 39)) + v1) < 96
            · rw [if_pos c18] at H
              rw [zp_iaload (n := 119) (K := zx_pk (zK L) 119) (σ := σ) (q := 94) (m := 96) (i := ((24 * (σ 82 39)) + v1)) (k := ((24 * (σ 82 39)) + v1).toNatClampNeg) (v := (σ 94 ((24 * (σ 82 39)) + v1).toNatClampNeg)) zd_105_234 rfl (by decide) (zJ_in c18 rfl) rfl rfl]
              exact zt_M_readThread_235 (hk178 := ih) H
            · rw [if_neg c18] at H
              cases H
          · rw [if_neg c17] at H
            rw [zp_icmp_ne_f (x := (σ 92 ((24 * (σ 82 39)) + v1).toNatClampNeg)) (y := 13) (t := 229) zd_105_214 rfl c17]
            rw [zs_aload_n (ls := [some (.ref 82), some (.int v1), some (.int ((24 * (σ 82 39)) + v1))]) zd_105_217 rfl]
            rw [zs_getR (n := 119) (K := zx_pk (zK L) 119) (ρ := zR) (c := 12) (k := 24) (q := 82) (p := 90) zd_105_218 rfl rfl rfl (by decide) rfl]
            rw [zs_aload_n (ls := [some (.ref 82), some (.int v1), some (.int ((24 * (σ 82 39)) + v1))]) zd_105_221 rfl]
            rw [zp_getI (n := 119) (K := zx_pk (zK L) 119) (σ := σ) (c := 12) (k := 39) (q := 82) (v := (σ 82 39)) zd_105_222 rfl rfl rfl (by decide) rfl]
            by_cases c20 : 0 ≤ (σ 82 39) ∧ (σ 82 39) < 4
            · rw [if_pos c20] at H
              rw [zp_iaload (n := 119) (K := zx_pk (zK L) 119) (σ := σ) (q := 90) (m := 4) (i := (σ 82 39)) (k := (σ 82 39).toNatClampNeg) (v := (σ 90 (σ 82 39).toNatClampNeg)) zd_105_225 rfl (by decide) (zJ_in c20 rfl) rfl rfl]
              rw [zs_goto (t := 235) zd_105_226 rfl]
              exact zt_M_readThread_235 (hk178 := ih) H
            · rw [if_neg c20] at H
              cases H
        · rw [if_neg c16] at H
          cases H
    · rw [if_neg c14] at H
      cases H
set_option maxRecDepth 20000 in
theorem zt_M_readThread_155 {a b L N : Nat} {σ : zS} {τ : zT} {o1 : Option Value} {o2 : Option Value} {r : zS} (H : zb_M_readThread_155 N σ = some r) : zx_go 6 105 155 [some (.ref 82), o1, o2] [] ((119, a, b), zx_pk (zK L) 119, σ, τ, zR) = some (none, ((119, a, b), zx_pk (zK L) 119, r, τ, zR)) := by
  unfold zb_M_readThread_155 at H
  rw [zs_aload_n (ls := [some (.ref 82), o1, o2]) zd_105_155 rfl]
  rw [zp_getZ (n := 119) (K := zx_pk (zK L) 119) (σ := σ) (c := 12) (k := 9) (q := 82) (v := (σ 82 9)) zd_105_156 rfl rfl rfl (by decide) rfl]
  by_cases c11 : (σ 82 9) = 0
  · rw [if_pos c11] at H
    rw [zp_if_eq_t (x := (σ 82 9)) (t := 163) zd_105_159 rfl c11]
    rw [zs_aload_n (ls := [some (.ref 82), o1, o2]) zd_105_163 rfl]
    rw [zs_aload_n (ls := [some (.ref 82), o1, o2]) zd_105_164 rfl]
    rw [zs_getR (n := 119) (K := zx_pk (zK L) 119) (ρ := zR) (c := 12) (k := 24) (q := 82) (p := 90) zd_105_165 rfl rfl rfl (by decide) rfl]
    rw [zs_aload_n (ls := [some (.ref 82), o1, o2]) zd_105_168 rfl]
    rw [zp_getI (n := 119) (K := zx_pk (zK L) 119) (σ := σ) (c := 12) (k := 39) (q := 82) (v := (σ 82 39)) zd_105_169 rfl rfl rfl (by decide) rfl]
    by_cases c12 : 0 ≤ (σ 82 39) ∧ (σ 82 39) < 4
    · rw [if_pos c12] at H
      rw [zp_iaload (n := 119) (K := zx_pk (zK L) 119) (σ := σ) (q := 90) (m := 4) (i := (σ 82 39)) (k := (σ 82 39).toNatClampNeg) (v := (σ 90 (σ 82 39).toNatClampNeg)) zd_105_172 rfl (by decide) (zJ_in c12 rfl) rfl rfl]
      obtain ⟨r13, hr13, H⟩ := Option.bind_eq_some_iff.mp H
      rw [zp_callVv (st := [.int (σ 90 (σ 82 39).toNatClampNeg), .ref 82]) (as := [.ref 82, .int (σ 90 (σ 82 39).toNatClampNeg)]) (rest := []) (e := 0) zd_105_173 rfl (by decide +kernel) (by decide) rfl rfl (Nat.le_of_ble_eq_true rfl) (zx_rcb_ok rfl (show 82 < 119 by decide)) (Nat.le_of_ble_eq_true rfl) rfl (by decide) (zt_M_lead hr13)]
      rw [zs_iconst (z := 0) zd_105_176 (by decide)]
      rw [zs_istore_n (x := 0) (ls' := [some (.ref 82), some (.int 0), o2]) zd_105_177 (Nat.le_of_ble_eq_true rfl) rfl]
      exact zt_M_readThread_178  H
    · rw [if_neg c12] at H
      cases H
  · rw [if_neg c11] at H
    rw [zp_if_eq_f (x := (σ 82 9)) (t := 163) zd_105_159 rfl c11]
    have H := Option.some.inj H
    subst H
    exact zs_return zd_105_162 (by decide +kernel)
set_option maxRecDepth 20000 in
theorem zt_M_readThread_118 {a b L N : Nat} : ∀ {n : Nat} {σ : zS} {τ : zT} {o1 : Option Value} {o2 : Option Value} {r : zS}, zb_M_readThread_118 N n σ = some r → zx_go 6 105 118 [some (.ref 82), o1, o2] [] ((119, a, b), zx_pk (zK L) 119, σ, τ, zR) = some (none, ((119, a, b), zx_pk (zK L) 119, r, τ, zR)) := by
  intro n
  induction n with
  | zero =>
    intro _ _ _ _ _ H
    cases H
  | succ n ih =>
    intro σ τ o1 o2 r H
    rw [zb_M_readThread_118] at H
    rw [zs_aload_n (ls := [some (.ref 82), o1, o2]) zd_105_118 rfl]
    rw [zp_getZ (n := 119) (K := zx_pk (zK L) 119) (σ := σ) (c := 12) (k := 9) (q := 82) (v := (σ 82 9)) zd_105_119 rfl rfl rfl (by decide) rfl]
    by_cases c10 : ¬ (σ 82 9) = 0
    · rw [if_pos c10] at H
      rw [zp_if_ne_t (x := (σ 82 9)) (t := 155) zd_105_122 rfl c10]
      exact zt_M_readThread_155  H
    · rw [if_neg c10] at H
      rw [zp_if_ne_f (x := (σ 82 9)) (t := 155) zd_105_122 rfl c10]
      rw [zs_aload_n (ls := [some (.ref 82), o1, o2]) zd_105_125 rfl]
      rw [zp_getI (n := 119) (K := zx_pk (zK L) 119) (σ := σ) (c := 12) (k := 46) (q := 82) (v := (σ 82 46)) zd_105_126 rfl rfl rfl (by decide) rfl]
      by_cases c21 : (σ 82 46) ≤ 0
      · rw [if_pos c21] at H
        rw [zp_if_le_t (x := (σ 82 46)) (t := 155) zd_105_129 rfl c21]
        exact zt_M_readThread_155  H
      · rw [if_neg c21] at H
        rw [zp_if_le_f (x := (σ 82 46)) (t := 155) zd_105_129 rfl c21]
        rw [zs_aload_n (ls := [some (.ref 82), o1, o2]) zd_105_132 rfl]
        rw [zs_bipush (z := 125) zd_105_133 (by decide)]
        obtain ⟨r22, hr22, H⟩ := Option.bind_eq_some_iff.mp H
        rw [zp_callVi (x := r22) (st := [.int 125, .ref 82]) (as := [.ref 82, .int 125]) (rest := []) (e := 0) zd_105_135 rfl (by decide +kernel) (by decide) rfl rfl (Nat.le_of_ble_eq_true rfl) (zx_rcb_ok rfl (show 82 < 119 by decide)) (Nat.le_of_ble_eq_true rfl) rfl (by decide) (zt_M_isSign hr22)]
        by_cases c23 : r22 = 0
        · rw [if_pos c23] at H
          rw [zp_if_eq_t (x := r22) (t := 148) zd_105_138 rfl c23]
          rw [zs_aload_n (ls := [some (.ref 82), o1, o2]) zd_105_148 rfl]
          obtain ⟨r24, hr24, H⟩ := Option.bind_eq_some_iff.mp H
          rw [zp_callVv (st := [.ref 82]) (as := [.ref 82]) (rest := []) (e := 5) zd_105_149 rfl (by decide +kernel) (by decide) rfl rfl (Nat.le_of_ble_eq_true rfl) (zx_rcb_ok rfl (show 82 < 119 by decide)) (Nat.le_of_ble_eq_true rfl) rfl (by decide) (zt_M_statement hr24)]
          rw [zs_goto (t := 118) zd_105_152 rfl]
          exact ih H
        · rw [if_neg c23] at H
          rw [zp_if_eq_f (x := r22) (t := 148) zd_105_138 rfl c23]
          rw [zs_aload_n (ls := [some (.ref 82), o1, o2]) zd_105_141 rfl]
          obtain ⟨r25, hr25, H⟩ := Option.bind_eq_some_iff.mp H
          rw [zp_callVv (st := [.ref 82]) (as := [.ref 82]) (rest := []) (e := 4) zd_105_142 rfl (by decide +kernel) (by decide) rfl rfl (Nat.le_of_ble_eq_true rfl) (zx_rcb_ok rfl (show 82 < 119 by decide)) (Nat.le_of_ble_eq_true rfl) rfl (by decide) (zt_M_closeBlock hr25)]
          rw [zs_goto (t := 118) zd_105_145 rfl]
          exact ih H
set_option maxRecDepth 20000 in
theorem zt_M_readThread {a b L N : Nat} {σ : zS} {τ : zT} {r : zS} (H : zf_M_readThread N σ = some r) : zx_go 6 105 0 [some (.ref 82), none, none] [] ((119, a, b), zx_pk (zK L) 119, σ, τ, zR) = some (none, ((119, a, b), zx_pk (zK L) 119, r, τ, zR)) := by
  unfold zf_M_readThread at H
  rw [zs_aload_n (ls := [some (.ref 82), none, none]) zd_105_0 rfl]
  obtain ⟨r1, hr1, H⟩ := Option.bind_eq_some_iff.mp H
  rw [zp_callVv (st := [.ref 82]) (as := [.ref 82]) (rest := []) (e := 2) zd_105_1 rfl (by decide +kernel) (by decide) rfl rfl (Nat.le_of_ble_eq_true rfl) (zx_rcb_ok rfl (show 82 < 119 by decide)) (Nat.le_of_ble_eq_true rfl) rfl (by decide) (zt_M_next hr1)]
  rw [zs_aload_n (ls := [some (.ref 82), none, none]) zd_105_4 rfl]
  rw [zp_getI (n := 119) (K := zx_pk (zK L) 119) (σ := r1) (c := 12) (k := 7) (q := 82) (v := (r1 82 7)) zd_105_5 rfl rfl rfl (by decide) rfl]
  rw [zs_iconst (z := 2) zd_105_8 (by decide)]
  by_cases c2 : (r1 82 7) = 2
  · rw [if_pos c2] at H
    rw [zp_icmp_eq_t (x := (r1 82 7)) (y := 2) (t := 17) zd_105_9 rfl c2]
    rw [zs_aload_n (ls := [some (.ref 82), none, none]) zd_105_17 rfl]
    obtain ⟨r3, hr3, H⟩ := Option.bind_eq_some_iff.mp H
    rw [zp_callVi (x := r3) (st := [.ref 82]) (as := [.ref 82]) (rest := []) (e := 2) zd_105_18 rfl (by decide +kernel) (by decide) rfl rfl (Nat.le_of_ble_eq_true rfl) (zx_rcb_ok rfl (show 82 < 119 by decide)) (Nat.le_of_ble_eq_true rfl) rfl (by decide) (zt_M_isTold hr3)]
    by_cases c4 : r3 = 0
    · rw [if_pos c4] at H
      rw [zp_if_eq_t (x := r3) (t := 30) zd_105_21 rfl c4]
      rw [zs_aload_n (ls := [some (.ref 82), none, none]) zd_105_30 rfl]
      rw [zp_getI (n := 119) (K := zx_pk (zK L) 119) (σ := r1) (c := 12) (k := 17) (q := 82) (v := (r1 82 17)) zd_105_31 rfl rfl rfl (by decide) rfl]
      rw [zs_iconst (z := 4) zd_105_34 (by decide)]
      by_cases c5 : ¬ (r1 82 17) = 4
      · rw [if_pos c5] at H
        rw [zp_icmp_ne_t (x := (r1 82 17)) (y := 4) (t := 44) zd_105_35 rfl c5]
        rw [zs_aload_n (ls := [some (.ref 82), none, none]) zd_105_44 rfl]
        rw [zs_bipush (z := 10) zd_105_45 (by decide)]
        rw [zs_aload_n (ls := [some (.ref 82), none, none]) zd_105_47 rfl]
        rw [zp_getI (n := 119) (K := zx_pk (zK L) 119) (σ := r1) (c := 12) (k := 17) (q := 82) (v := (r1 82 17)) zd_105_48 rfl rfl rfl (by decide) rfl]
        rw [zp_iadd (x := 10) (y := (r1 82 17)) (z := (10 + (r1 82 17))) zd_105_51 rfl]
        obtain ⟨r6, hr6, H⟩ := Option.bind_eq_some_iff.mp H
        rw [zp_callVv (st := [.int (10 + (r1 82 17)), .ref 82]) (as := [.ref 82, .int (10 + (r1 82 17))]) (rest := []) (e := 0) zd_105_52 rfl (by decide +kernel) (by decide) rfl rfl (Nat.le_of_ble_eq_true rfl) (zx_rcb_ok rfl (show 82 < 119 by decide)) (Nat.le_of_ble_eq_true rfl) rfl (by decide) (zt_M_call hr6)]
        rw [zs_aload_n (ls := [some (.ref 82), none, none]) zd_105_55 rfl]
        rw [zs_aload_n (ls := [some (.ref 82), none, none]) zd_105_56 rfl]
        rw [zp_getI (n := 119) (K := zx_pk (zK L) 119) (σ := r6) (c := 12) (k := 17) (q := 82) (v := (r6 82 17)) zd_105_57 rfl rfl rfl (by decide) rfl]
        rw [zs_putI (n := 119) (K := zx_pk (zK L) 119) (c := 12) (k := 39) (q := 82) (x := (r6 82 17)) zd_105_60 rfl rfl (by decide +kernel) rfl (by decide)]
        rw [zs_aload_n (ls := [some (.ref 82), none, none]) zd_105_63 rfl]
        rw [zs_dup (a := .ref 82) zd_105_64 rfl]
        rw [zp_getI (n := 119) (K := zx_pk (zK L) 119) (σ := (zx_up r6 82 39 (r6 82 17))) (c := 12) (k := 17) (q := 82) (v := (r6 82 17)) zd_105_65 rfl rfl rfl (by decide) (show ((zx_up r6 82 39 (r6 82 17)) : zS) 82 17 = (r6 82 17) from ((zx_up_nj (by decide)).trans rfl))]
        rw [zs_iconst (z := 1) zd_105_68 (by decide)]
        rw [zp_iadd (x := (r6 82 17)) (y := 1) (z := ((r6 82 17) + 1)) zd_105_69 rfl]
        rw [zs_putI (n := 119) (K := zx_pk (zK L) 119) (c := 12) (k := 17) (q := 82) (x := ((r6 82 17) + 1)) zd_105_70 rfl rfl (by decide +kernel) rfl (by decide)]
        rw [zs_aload_n (ls := [some (.ref 82), none, none]) zd_105_73 rfl]
        obtain ⟨r7, hr7, H⟩ := Option.bind_eq_some_iff.mp H
        rw [zp_callVv (st := [.ref 82]) (as := [.ref 82]) (rest := []) (e := 2) zd_105_74 rfl (by decide +kernel) (by decide) rfl rfl (Nat.le_of_ble_eq_true rfl) (zx_rcb_ok rfl (show 82 < 119 by decide)) (Nat.le_of_ble_eq_true rfl) rfl (by decide) (zt_M_next hr7)]
        rw [zs_aload_n (ls := [some (.ref 82), none, none]) zd_105_77 rfl]
        rw [zs_getR (n := 119) (K := zx_pk (zK L) 119) (ρ := zR) (c := 12) (k := 24) (q := 82) (p := 90) zd_105_78 rfl rfl rfl (by decide) rfl]
        rw [zs_aload_n (ls := [some (.ref 82), none, none]) zd_105_81 rfl]
        rw [zp_getI (n := 119) (K := zx_pk (zK L) 119) (σ := r7) (c := 12) (k := 39) (q := 82) (v := (r7 82 39)) zd_105_82 rfl rfl rfl (by decide) rfl]
        rw [zs_iconst (z := 0) zd_105_85 (by decide)]
        by_cases c8 : 0 ≤ (r7 82 39) ∧ (r7 82 39) < 4
        · rw [if_pos c8] at H
          rw [zp_iastore (n := 119) (K := zx_pk (zK L) 119) (q := 90) (m := 4) (i := (r7 82 39)) (k := (r7 82 39).toNatClampNeg) (x := 0) (z := 0) zd_105_86 rfl ⟨by decide, by decide⟩ (zJ_in c8 rfl) rfl rfl]
          rw [zs_aload_n (ls := [some (.ref 82), none, none]) zd_105_87 rfl]
          rw [zs_iconst (z := 0) zd_105_88 (by decide)]
          rw [zs_putI (n := 119) (K := zx_pk (zK L) 119) (c := 12) (k := 18) (q := 82) (x := 0) zd_105_89 rfl rfl (by decide +kernel) rfl (by decide)]
          rw [zs_aload_n (ls := [some (.ref 82), none, none]) zd_105_92 rfl]
          rw [zs_iconst (z := 0) zd_105_93 (by decide)]
          rw [zs_putI (n := 119) (K := zx_pk (zK L) 119) (c := 12) (k := 46) (q := 82) (x := 0) zd_105_94 rfl rfl (by decide +kernel) rfl (by decide)]
          rw [zs_aload_n (ls := [some (.ref 82), none, none]) zd_105_97 rfl]
          rw [zs_iconst (z := 0) zd_105_98 (by decide)]
          rw [zs_putI (n := 119) (K := zx_pk (zK L) 119) (c := 12) (k := 40) (q := 82) (x := 0) zd_105_99 rfl rfl (by decide +kernel) rfl (by decide)]
          rw [zs_aload_n (ls := [some (.ref 82), none, none]) zd_105_102 rfl]
          rw [zs_iconst (z := (-1)) zd_105_103 (by decide)]
          rw [zs_putI (n := 119) (K := zx_pk (zK L) 119) (c := 12) (k := 41) (q := 82) (x := (-1)) zd_105_104 rfl rfl (by decide +kernel) rfl (by decide)]
          rw [zs_aload_n (ls := [some (.ref 82), none, none]) zd_105_107 rfl]
          rw [zs_iconst (z := (-1)) zd_105_108 (by decide)]
          rw [zs_putI (n := 119) (K := zx_pk (zK L) 119) (c := 12) (k := 37) (q := 82) (x := (-1)) zd_105_109 rfl rfl (by decide +kernel) rfl (by decide)]
          rw [zs_aload_n (ls := [some (.ref 82), none, none]) zd_105_112 rfl]
          rw [zs_iconst (z := 0) zd_105_113 (by decide)]
          rw [zs_iconst (z := 0) zd_105_114 (by decide)]
          obtain ⟨r9, hr9, H⟩ := Option.bind_eq_some_iff.mp H
          rw [zp_callVv (st := [.int 0, .int 0, .ref 82]) (as := [.ref 82, .int 0, .int 0]) (rest := []) (e := 3) zd_105_115 rfl (by decide +kernel) (by decide) rfl rfl (Nat.le_of_ble_eq_true rfl) (zx_rcb_ok rfl (show 82 < 119 by decide)) (Nat.le_of_ble_eq_true rfl) rfl (by decide) (zt_M_openBlock hr9)]
          exact zt_M_readThread_118  H
        · rw [if_neg c8] at H
          cases H
      · rw [if_neg c5] at H
        rw [zp_icmp_ne_f (x := (r1 82 17)) (y := 4) (t := 44) zd_105_35 rfl c5]
        rw [zs_aload_n (ls := [some (.ref 82), none, none]) zd_105_38 rfl]
        rw [zs_iconst (z := 4) zd_105_39 (by decide)]
        obtain ⟨r26, hr26, H⟩ := Option.bind_eq_some_iff.mp H
        rw [zp_callVv (st := [.int 4, .ref 82]) (as := [.ref 82, .int 4]) (rest := []) (e := 0) zd_105_40 rfl (by decide +kernel) (by decide) rfl rfl (Nat.le_of_ble_eq_true rfl) (zx_rcb_ok rfl (show 82 < 119 by decide)) (Nat.le_of_ble_eq_true rfl) rfl (by decide) (zt_M_fail hr26)]
        have H := Option.some.inj H
        subst H
        exact zs_return zd_105_43 (by decide +kernel)
    · rw [if_neg c4] at H
      rw [zp_if_eq_f (x := r3) (t := 30) zd_105_21 rfl c4]
      rw [zs_aload_n (ls := [some (.ref 82), none, none]) zd_105_24 rfl]
      rw [zs_iconst (z := 3) zd_105_25 (by decide)]
      obtain ⟨r27, hr27, H⟩ := Option.bind_eq_some_iff.mp H
      rw [zp_callVv (st := [.int 3, .ref 82]) (as := [.ref 82, .int 3]) (rest := []) (e := 0) zd_105_26 rfl (by decide +kernel) (by decide) rfl rfl (Nat.le_of_ble_eq_true rfl) (zx_rcb_ok rfl (show 82 < 119 by decide)) (Nat.le_of_ble_eq_true rfl) rfl (by decide) (zt_M_fail hr27)]
      have H := Option.some.inj H
      subst H
      exact zs_return zd_105_29 (by decide +kernel)
  · rw [if_neg c2] at H
    rw [zp_icmp_eq_f (x := (r1 82 7)) (y := 2) (t := 17) zd_105_9 rfl c2]
    rw [zs_aload_n (ls := [some (.ref 82), none, none]) zd_105_12 rfl]
    obtain ⟨r28, hr28, H⟩ := Option.bind_eq_some_iff.mp H
    rw [zp_callVv (st := [.ref 82]) (as := [.ref 82]) (rest := []) (e := 1) zd_105_13 rfl (by decide +kernel) (by decide) rfl rfl (Nat.le_of_ble_eq_true rfl) (zx_rcb_ok rfl (show 82 < 119 by decide)) (Nat.le_of_ble_eq_true rfl) rfl (by decide) (zt_M_cannot hr28)]
    have H := Option.some.inj H
    subst H
    exact zs_return zd_105_16 (by decide +kernel)
set_option maxRecDepth 20000 in
theorem zt_M_readTold {a b L N : Nat} {σ : zS} {τ : zT} {x1 : Int32} {x2 : Int32} {x3 : Int32} {r : zS} (H : zf_M_readTold N σ x1 x2 x3 = some r) : zx_go 3 93 0 [some (.ref 82), some (.int x1), some (.int x2), some (.int x3)] [] ((119, a, b), zx_pk (zK L) 119, σ, τ, zR) = some (none, ((119, a, b), zx_pk (zK L) 119, r, τ, zR)) := by
  unfold zf_M_readTold at H
  rw [zs_aload_n (ls := [some (.ref 82), some (.int x1), some (.int x2), some (.int x3)]) zd_93_0 rfl]
  rw [zp_getI (n := 119) (K := zx_pk (zK L) 119) (σ := σ) (c := 12) (k := 7) (q := 82) (v := (σ 82 7)) zd_93_1 rfl rfl rfl (by decide) rfl]
  rw [zs_iconst (z := 2) zd_93_4 (by decide)]
  by_cases c1 : (σ 82 7) = 2
  · rw [if_pos c1] at H
    rw [zp_icmp_eq_t (x := (σ 82 7)) (y := 2) (t := 15) zd_93_5 rfl c1]
    rw [zs_aload_n (ls := [some (.ref 82), some (.int x1), some (.int x2), some (.int x3)]) zd_93_15 rfl]
    obtain ⟨r2, hr2, H⟩ := Option.bind_eq_some_iff.mp H
    rw [zp_callVi (x := r2) (st := [.ref 82]) (as := [.ref 82]) (rest := []) (e := 2) zd_93_16 rfl (by decide +kernel) (by decide) rfl rfl (Nat.le_of_ble_eq_true rfl) (zx_rcb_ok rfl (show 82 < 119 by decide)) (Nat.le_of_ble_eq_true rfl) rfl (by decide) (zt_M_isTold hr2)]
    by_cases c3 : r2 = 0
    · rw [if_pos c3] at H
      rw [zp_if_eq_t (x := r2) (t := 30) zd_93_19 rfl c3]
      rw [zs_iload_n (ls := [some (.ref 82), some (.int x1), some (.int x2), some (.int x3)]) zd_93_30 rfl]
      rw [zs_iload_n (ls := [some (.ref 82), some (.int x1), some (.int x2), some (.int x3)]) zd_93_31 rfl]
      by_cases c4 : ¬ x2 = x3
      · rw [if_pos c4] at H
        rw [zp_icmp_ne_t (x := x2) (y := x3) (t := 43) zd_93_32 rfl c4]
        rw [zs_aload_n (ls := [some (.ref 82), some (.int x1), some (.int x2), some (.int x3)]) zd_93_43 rfl]
        rw [zs_iload_n (ls := [some (.ref 82), some (.int x1), some (.int x2), some (.int x3)]) zd_93_44 rfl]
        rw [zs_iload_n (ls := [some (.ref 82), some (.int x1), some (.int x2), some (.int x3)]) zd_93_45 rfl]
        rw [zp_iadd (x := x1) (y := x2) (z := (x1 + x2)) zd_93_46 rfl]
        obtain ⟨r5, hr5, H⟩ := Option.bind_eq_some_iff.mp H
        rw [zp_callVv (st := [.int (x1 + x2), .ref 82]) (as := [.ref 82, .int (x1 + x2)]) (rest := []) (e := 0) zd_93_47 rfl (by decide +kernel) (by decide) rfl rfl (Nat.le_of_ble_eq_true rfl) (zx_rcb_ok rfl (show 82 < 119 by decide)) (Nat.le_of_ble_eq_true rfl) rfl (by decide) (zt_M_call hr5)]
        rw [zs_aload_n (ls := [some (.ref 82), some (.int x1), some (.int x2), some (.int x3)]) zd_93_50 rfl]
        obtain ⟨r6, hr6, H⟩ := Option.bind_eq_some_iff.mp H
        rw [zp_callVv (st := [.ref 82]) (as := [.ref 82]) (rest := []) (e := 2) zd_93_51 rfl (by decide +kernel) (by decide) rfl rfl (Nat.le_of_ble_eq_true rfl) (zx_rcb_ok rfl (show 82 < 119 by decide)) (Nat.le_of_ble_eq_true rfl) rfl (by decide) (zt_M_next hr6)]
        have H := Option.some.inj H
        subst H
        exact zs_return zd_93_54 (by decide +kernel)
      · rw [if_neg c4] at H
        rw [zp_icmp_ne_f (x := x2) (y := x3) (t := 43) zd_93_32 rfl c4]
        rw [zs_aload_n (ls := [some (.ref 82), some (.int x1), some (.int x2), some (.int x3)]) zd_93_35 rfl]
        rw [zs_iconst (z := 4) zd_93_36 (by decide)]
        obtain ⟨r7, hr7, H⟩ := Option.bind_eq_some_iff.mp H
        rw [zp_callVv (st := [.int 4, .ref 82]) (as := [.ref 82, .int 4]) (rest := []) (e := 0) zd_93_37 rfl (by decide +kernel) (by decide) rfl rfl (Nat.le_of_ble_eq_true rfl) (zx_rcb_ok rfl (show 82 < 119 by decide)) (Nat.le_of_ble_eq_true rfl) rfl (by decide) (zt_M_fail hr7)]
        rw [zs_goto (t := 54) zd_93_40 rfl]
        have H := Option.some.inj H
        subst H
        exact zs_return zd_93_54 (by decide +kernel)
    · rw [if_neg c3] at H
      rw [zp_if_eq_f (x := r2) (t := 30) zd_93_19 rfl c3]
      rw [zs_aload_n (ls := [some (.ref 82), some (.int x1), some (.int x2), some (.int x3)]) zd_93_22 rfl]
      rw [zs_iconst (z := 3) zd_93_23 (by decide)]
      obtain ⟨r8, hr8, H⟩ := Option.bind_eq_some_iff.mp H
      rw [zp_callVv (st := [.int 3, .ref 82]) (as := [.ref 82, .int 3]) (rest := []) (e := 0) zd_93_24 rfl (by decide +kernel) (by decide) rfl rfl (Nat.le_of_ble_eq_true rfl) (zx_rcb_ok rfl (show 82 < 119 by decide)) (Nat.le_of_ble_eq_true rfl) rfl (by decide) (zt_M_fail hr8)]
      rw [zs_goto (t := 54) zd_93_27 rfl]
      have H := Option.some.inj H
      subst H
      exact zs_return zd_93_54 (by decide +kernel)
  · rw [if_neg c1] at H
    rw [zp_icmp_eq_f (x := (σ 82 7)) (y := 2) (t := 15) zd_93_5 rfl c1]
    rw [zs_aload_n (ls := [some (.ref 82), some (.int x1), some (.int x2), some (.int x3)]) zd_93_8 rfl]
    obtain ⟨r9, hr9, H⟩ := Option.bind_eq_some_iff.mp H
    rw [zp_callVv (st := [.ref 82]) (as := [.ref 82]) (rest := []) (e := 1) zd_93_9 rfl (by decide +kernel) (by decide) rfl rfl (Nat.le_of_ble_eq_true rfl) (zx_rcb_ok rfl (show 82 < 119 by decide)) (Nat.le_of_ble_eq_true rfl) rfl (by decide) (zt_M_cannot hr9)]
    rw [zs_goto (t := 54) zd_93_12 rfl]
    have H := Option.some.inj H
    subst H
    exact zs_return zd_93_54 (by decide +kernel)
set_option maxRecDepth 20000 in
theorem zt_M_readField_86 {a b L N : Nat} {σ : zS} {τ : zT} {o1 : Option Value} {r : zS} (H : zb_M_readField_86 N σ = some r) : zx_go 4 104 86 [some (.ref 82), o1] [] ((119, a, b), zx_pk (zK L) 119, σ, τ, zR) = some (none, ((119, a, b), zx_pk (zK L) 119, r, τ, zR)) := by
  unfold zb_M_readField_86 at H
  rw [zs_aload_n (ls := [some (.ref 82), o1]) zd_104_86 rfl]
  rw [zs_dup (a := .ref 82) zd_104_87 rfl]
  rw [zp_getI (n := 119) (K := zx_pk (zK L) 119) (σ := σ) (c := 12) (k := 15) (q := 82) (v := (σ 82 15)) zd_104_88 rfl rfl rfl (by decide) rfl]
  rw [zs_iconst (z := 1) zd_104_91 (by decide)]
  rw [zp_iadd (x := (σ 82 15)) (y := 1) (z := ((σ 82 15) + 1)) zd_104_92 rfl]
  rw [zs_putI (n := 119) (K := zx_pk (zK L) 119) (c := 12) (k := 15) (q := 82) (x := ((σ 82 15) + 1)) zd_104_93 rfl rfl (by decide +kernel) rfl (by decide)]
  rw [zs_aload_n (ls := [some (.ref 82), o1]) zd_104_96 rfl]
  rw [zs_bipush (z := 59) zd_104_97 (by decide)]
  obtain ⟨r8, hr8, H⟩ := Option.bind_eq_some_iff.mp H
  rw [zp_callVv (st := [.int 59, .ref 82]) (as := [.ref 82, .int 59]) (rest := []) (e := 3) zd_104_99 rfl (by decide +kernel) (by decide) rfl rfl (Nat.le_of_ble_eq_true rfl) (zx_rcb_ok rfl (show 82 < 119 by decide)) (Nat.le_of_ble_eq_true rfl) rfl (by decide) (zt_M_take hr8)]
  have H := Option.some.inj H
  subst H
  exact zs_return zd_104_102 (by decide +kernel)
set_option maxRecDepth 20000 in
theorem zt_M_readField {a b L N : Nat} {σ : zS} {τ : zT} {x1 : Int32} {r : zS} (H : zf_M_readField N σ x1 = some r) : zx_go 4 104 0 [some (.ref 82), some (.int x1)] [] ((119, a, b), zx_pk (zK L) 119, σ, τ, zR) = some (none, ((119, a, b), zx_pk (zK L) 119, r, τ, zR)) := by
  unfold zf_M_readField at H
  rw [zs_aload_n (ls := [some (.ref 82), some (.int x1)]) zd_104_0 rfl]
  obtain ⟨r1, hr1, H⟩ := Option.bind_eq_some_iff.mp H
  rw [zp_callVv (st := [.ref 82]) (as := [.ref 82]) (rest := []) (e := 2) zd_104_1 rfl (by decide +kernel) (by decide) rfl rfl (Nat.le_of_ble_eq_true rfl) (zx_rcb_ok rfl (show 82 < 119 by decide)) (Nat.le_of_ble_eq_true rfl) rfl (by decide) (zt_M_next hr1)]
  rw [zs_aload_n (ls := [some (.ref 82), some (.int x1)]) zd_104_4 rfl]
  rw [zs_iconst (z := 0) zd_104_5 (by decide)]
  rw [zs_aload_n (ls := [some (.ref 82), some (.int x1)]) zd_104_6 rfl]
  rw [zp_getI (n := 119) (K := zx_pk (zK L) 119) (σ := r1) (c := 12) (k := 15) (q := 82) (v := (r1 82 15)) zd_104_7 rfl rfl rfl (by decide) rfl]
  rw [zs_bipush (z := 6) zd_104_10 (by decide)]
  obtain ⟨r2, hr2, H⟩ := Option.bind_eq_some_iff.mp H
  rw [zp_callVv (st := [.int 6, .int (r1 82 15), .int 0, .ref 82]) (as := [.ref 82, .int 0, .int (r1 82 15), .int 6]) (rest := []) (e := 3) zd_104_12 rfl (by decide +kernel) (by decide) rfl rfl (Nat.le_of_ble_eq_true rfl) (zx_rcb_ok rfl (show 82 < 119 by decide)) (Nat.le_of_ble_eq_true rfl) rfl (by decide) (zt_M_readTold hr2)]
  rw [zs_aload_n (ls := [some (.ref 82), some (.int x1)]) zd_104_15 rfl]
  rw [zp_getZ (n := 119) (K := zx_pk (zK L) 119) (σ := r2) (c := 12) (k := 9) (q := 82) (v := (r2 82 9)) zd_104_16 rfl rfl rfl (by decide) rfl]
  by_cases c3 : (r2 82 9) = 0
  · rw [if_pos c3] at H
    rw [zp_if_eq_t (x := (r2 82 9)) (t := 23) zd_104_19 rfl c3]
    rw [zs_aload_n (ls := [some (.ref 82), some (.int x1)]) zd_104_23 rfl]
    rw [zs_getR (n := 119) (K := zx_pk (zK L) 119) (ρ := zR) (c := 12) (k := 22) (q := 82) (p := 88) zd_104_24 rfl rfl rfl (by decide) rfl]
    rw [zs_aload_n (ls := [some (.ref 82), some (.int x1)]) zd_104_27 rfl]
    rw [zp_getI (n := 119) (K := zx_pk (zK L) 119) (σ := r2) (c := 12) (k := 15) (q := 82) (v := (r2 82 15)) zd_104_28 rfl rfl rfl (by decide) rfl]
    rw [zs_iload_n (ls := [some (.ref 82), some (.int x1)]) zd_104_31 rfl]
    by_cases c4 : 0 ≤ (r2 82 15) ∧ (r2 82 15) < 6
    · rw [if_pos c4] at H
      rw [zp_zastore (n := 119) (K := zx_pk (zK L) 119) (q := 88) (m := 6) (i := (r2 82 15)) (k := (r2 82 15).toNatClampNeg) (x := x1) (z := (x1 &&& 1)) zd_104_32 rfl ⟨by decide, by decide⟩ (zJ_in c4 rfl) rfl rfl]
      rw [zs_aload_n (ls := [some (.ref 82), some (.int x1)]) zd_104_33 rfl]
      rw [zs_getR (n := 119) (K := zx_pk (zK L) 119) (ρ := zR) (c := 12) (k := 23) (q := 82) (p := 89) zd_104_34 rfl rfl rfl (by decide) rfl]
      rw [zs_aload_n (ls := [some (.ref 82), some (.int x1)]) zd_104_37 rfl]
      rw [zp_getI (n := 119) (K := zx_pk (zK L) 119) (σ := (zx_up r2 88 (r2 82 15).toNatClampNeg (x1 &&& 1))) (c := 12) (k := 15) (q := 82) (v := (r2 82 15)) zd_104_38 rfl rfl rfl (by decide) (show ((zx_up r2 88 (r2 82 15).toNatClampNeg (x1 &&& 1)) : zS) 82 15 = (r2 82 15) from ((zx_up_ne (by decide)).trans rfl))]
      rw [zs_iconst (z := 0) zd_104_41 (by decide)]
      by_cases c5 : 0 ≤ (r2 82 15) ∧ (r2 82 15) < 6
      · rw [if_pos c5] at H
        rw [zp_iastore (n := 119) (K := zx_pk (zK L) 119) (q := 89) (m := 6) (i := (r2 82 15)) (k := (r2 82 15).toNatClampNeg) (x := 0) (z := 0) zd_104_42 rfl ⟨by decide, by decide⟩ (zJ_in c5 rfl) rfl rfl]
        rw [zs_aload_n (ls := [some (.ref 82), some (.int x1)]) zd_104_43 rfl]
        rw [zs_bipush (z := 61) zd_104_44 (by decide)]
        obtain ⟨r6, hr6, H⟩ := Option.bind_eq_some_iff.mp H
        rw [zp_callVi (x := r6) (st := [.int 61, .ref 82]) (as := [.ref 82, .int 61]) (rest := []) (e := 0) zd_104_46 rfl (by decide +kernel) (by decide) rfl rfl (Nat.le_of_ble_eq_true rfl) (zx_rcb_ok rfl (show 82 < 119 by decide)) (Nat.le_of_ble_eq_true rfl) rfl (by decide) (zt_M_isSign hr6)]
        by_cases c7 : r6 = 0
        · rw [if_pos c7] at H
          rw [zp_if_eq_t (x := r6) (t := 86) zd_104_49 rfl c7]
          exact zt_M_readField_86  H
        · rw [if_neg c7] at H
          rw [zp_if_eq_f (x := r6) (t := 86) zd_104_49 rfl c7]
          rw [zs_aload_n (ls := [some (.ref 82), some (.int x1)]) zd_104_52 rfl]
          obtain ⟨r9, hr9, H⟩ := Option.bind_eq_some_iff.mp H
          rw [zp_callVv (st := [.ref 82]) (as := [.ref 82]) (rest := []) (e := 2) zd_104_53 rfl (by decide +kernel) (by decide) rfl rfl (Nat.le_of_ble_eq_true rfl) (zx_rcb_ok rfl (show 82 < 119 by decide)) (Nat.le_of_ble_eq_true rfl) rfl (by decide) (zt_M_next hr9)]
          rw [zs_aload_n (ls := [some (.ref 82), some (.int x1)]) zd_104_56 rfl]
          rw [zs_getR (n := 119) (K := zx_pk (zK L) 119) (ρ := zR) (c := 12) (k := 23) (q := 82) (p := 89) zd_104_57 rfl rfl rfl (by decide) rfl]
          rw [zs_aload_n (ls := [some (.ref 82), some (.int x1)]) zd_104_60 rfl]
          rw [zp_getI (n := 119) (K := zx_pk (zK L) 119) (σ := r9) (c := 12) (k := 15) (q := 82) (v := (r9 82 15)) zd_104_61 rfl rfl rfl (by decide) rfl]
          rw [zs_aload_n (ls := [some (.ref 82), some (.int x1)]) zd_104_64 rfl]
          rw [zp_getI (n := 119) (K := zx_pk (zK L) 119) (σ := r9) (c := 12) (k := 8) (q := 82) (v := (r9 82 8)) zd_104_65 rfl rfl rfl (by decide) rfl]
          by_cases c10 : 0 ≤ (r9 82 15) ∧ (r9 82 15) < 6
          · rw [if_pos c10] at H
            rw [zp_iastore (n := 119) (K := zx_pk (zK L) 119) (q := 89) (m := 6) (i := (r9 82 15)) (k := (r9 82 15).toNatClampNeg) (x := (r9 82 8)) (z := (r9 82 8)) zd_104_68 rfl ⟨by decide, by decide⟩ (zJ_in c10 rfl) rfl rfl]
            rw [zs_aload_n (ls := [some (.ref 82), some (.int x1)]) zd_104_69 rfl]
            rw [zp_getI (n := 119) (K := zx_pk (zK L) 119) (σ := (zx_up r9 89 (r9 82 15).toNatClampNeg (r9 82 8))) (c := 12) (k := 7) (q := 82) (v := (r9 82 7)) zd_104_70 rfl rfl rfl (by decide) (show ((zx_up r9 89 (r9 82 15).toNatClampNeg (r9 82 8)) : zS) 82 7 = (r9 82 7) from ((zx_up_ne (by decide)).trans rfl))]
            rw [zs_iconst (z := 3) zd_104_73 (by decide)]
            by_cases c11 : (r9 82 7) = 3
            · rw [if_pos c11] at H
              rw [zp_icmp_eq_t (x := (r9 82 7)) (y := 3) (t := 82) zd_104_74 rfl c11]
              rw [zs_aload_n (ls := [some (.ref 82), some (.int x1)]) zd_104_82 rfl]
              obtain ⟨r12, hr12, H⟩ := Option.bind_eq_some_iff.mp H
              rw [zp_callVv (st := [.ref 82]) (as := [.ref 82]) (rest := []) (e := 2) zd_104_83 rfl (by decide +kernel) (by decide) rfl rfl (Nat.le_of_ble_eq_true rfl) (zx_rcb_ok rfl (show 82 < 119 by decide)) (Nat.le_of_ble_eq_true rfl) rfl (by decide) (zt_M_next hr12)]
              exact zt_M_readField_86  H
            · rw [if_neg c11] at H
              rw [zp_icmp_eq_f (x := (r9 82 7)) (y := 3) (t := 82) zd_104_74 rfl c11]
              rw [zs_aload_n (ls := [some (.ref 82), some (.int x1)]) zd_104_77 rfl]
              obtain ⟨r13, hr13, H⟩ := Option.bind_eq_some_iff.mp H
              rw [zp_callVv (st := [.ref 82]) (as := [.ref 82]) (rest := []) (e := 1) zd_104_78 rfl (by decide +kernel) (by decide) rfl rfl (Nat.le_of_ble_eq_true rfl) (zx_rcb_ok rfl (show 82 < 119 by decide)) (Nat.le_of_ble_eq_true rfl) rfl (by decide) (zt_M_cannot hr13)]
              have H := Option.some.inj H
              subst H
              exact zs_return zd_104_81 (by decide +kernel)
          · rw [if_neg c10] at H
            cases H
      · rw [if_neg c5] at H
        cases H
    · rw [if_neg c4] at H
      cases H
  · rw [if_neg c3] at H
    rw [zp_if_eq_f (x := (r2 82 9)) (t := 23) zd_104_19 rfl c3]
    have H := Option.some.inj H
    subst H
    exact zs_return zd_104_22 (by decide +kernel)
set_option maxRecDepth 20000 in
theorem zt_M_read_268 {a b L N : Nat} {σ : zS} {τ : zT} {s0 : Int32} {o1 : Option Value} {r : Int32 × zS} (H : zb_M_read_268 N σ s0 = some r) : zx_go 7 86 268 [some (.ref 82), o1] [.int s0, .ref 82] ((119, a, b), zx_pk (zK L) 119, σ, τ, zR) = some (some (.int r.1), ((119, a, b), zx_pk (zK L) 119, r.2, τ, zR)) := by
  unfold zb_M_read_268 at H
  by_cases c8 : s0 = 0 ∨ s0 = 1
  · rw [if_pos c8] at H
    rw [zs_putZ (n := 119) (K := zx_pk (zK L) 119) (c := 12) (k := 21) (q := 82) (x := s0) zd_86_268 rfl rfl (by decide +kernel) rfl (by decide) (zJ_bt c8)]
    rw [zs_aload_n (ls := [some (.ref 82), o1]) zd_86_271 rfl]
    rw [zs_aload_n (ls := [some (.ref 82), o1]) zd_86_272 rfl]
    rw [zp_getI (n := 119) (K := zx_pk (zK L) 119) (σ := (zx_up σ 82 21 s0)) (c := 12) (k := 10) (q := 82) (v := (σ 82 10)) zd_86_273 rfl rfl rfl (by decide) (show ((zx_up σ 82 21 s0) : zS) 82 10 = (σ 82 10) from ((zx_up_nj (by decide)).trans rfl))]
    rw [zs_putI (n := 119) (K := zx_pk (zK L) 119) (c := 12) (k := 12) (q := 82) (x := (σ 82 10)) zd_86_276 rfl rfl (by decide +kernel) rfl (by decide)]
    rw [zs_aload_n (ls := [some (.ref 82), o1]) zd_86_279 rfl]
    rw [zp_getZ (n := 119) (K := zx_pk (zK L) 119) (σ := (zx_up (zx_up σ 82 21 s0) 82 12 (σ 82 10))) (c := 12) (k := 9) (q := 82) (v := (σ 82 9)) zd_86_280 rfl rfl rfl (by decide) (show ((zx_up (zx_up σ 82 21 s0) 82 12 (σ 82 10)) : zS) 82 9 = (σ 82 9) from ((zx_up_nj (by decide)).trans ((zx_up_nj (by decide)).trans rfl)))]
    by_cases c9 : (σ 82 9) = 0
    · rw [if_pos c9] at H
      rw [zp_if_eq_t (x := (σ 82 9)) (t := 297) zd_86_283 rfl c9]
      rw [zs_aload_n (ls := [some (.ref 82), o1]) zd_86_297 rfl]
      obtain ⟨r10, hr10, H⟩ := Option.bind_eq_some_iff.mp H
      rw [zp_callVi (x := r10) (st := [.ref 82]) (as := [.ref 82]) (rest := []) (e := 0) zd_86_298 rfl (by decide +kernel) (by decide) rfl rfl (Nat.le_of_ble_eq_true rfl) (zx_rcb_ok rfl (show 82 < 119 by decide)) (Nat.le_of_ble_eq_true rfl) rfl (by decide) (zt_M_allSteps hr10)]
      have H := Option.some.inj H
      subst H
      exact zs_ireturn zd_86_301 rfl
    · rw [if_neg c9] at H
      rw [zp_if_eq_f (x := (σ 82 9)) (t := 297) zd_86_283 rfl c9]
      rw [zs_sipush (z := (-1000)) zd_86_286 (by decide)]
      rw [zs_aload_n (ls := [some (.ref 82), o1]) zd_86_289 rfl]
      rw [zp_getI (n := 119) (K := zx_pk (zK L) 119) (σ := (zx_up (zx_up σ 82 21 s0) 82 12 (σ 82 10))) (c := 12) (k := 11) (q := 82) (v := (σ 82 11)) zd_86_290 rfl rfl rfl (by decide) (show ((zx_up (zx_up σ 82 21 s0) 82 12 (σ 82 10)) : zS) 82 11 = (σ 82 11) from ((zx_up_nj (by decide)).trans ((zx_up_nj (by decide)).trans rfl)))]
      rw [zp_isub (x := (-1000)) (y := (σ 82 11)) (z := ((-1000) - (σ 82 11))) zd_86_293 rfl]
      rw [zs_goto (t := 301) zd_86_294 rfl]
      have H := Option.some.inj H
      subst H
      exact zs_ireturn zd_86_301 rfl
  · rw [if_neg c8] at H
    cases H
set_option maxRecDepth 20000 in
theorem zt_M_read_255 {a b L N : Nat} {σ : zS} {τ : zT} {o1 : Option Value} {r : Int32 × zS} (H : zb_M_read_255 N σ = some r) : zx_go 7 86 255 [some (.ref 82), o1] [] ((119, a, b), zx_pk (zK L) 119, σ, τ, zR) = some (some (.int r.1), ((119, a, b), zx_pk (zK L) 119, r.2, τ, zR)) := by
  unfold zb_M_read_255 at H
  rw [zs_aload_n (ls := [some (.ref 82), o1]) zd_86_255 rfl]
  rw [zs_aload_n (ls := [some (.ref 82), o1]) zd_86_256 rfl]
  rw [zp_getZ (n := 119) (K := zx_pk (zK L) 119) (σ := σ) (c := 12) (k := 9) (q := 82) (v := (σ 82 9)) zd_86_257 rfl rfl rfl (by decide) rfl]
  by_cases c7 : ¬ (σ 82 9) = 0
  · rw [if_pos c7] at H
    rw [zp_if_ne_t (x := (σ 82 9)) (t := 267) zd_86_260 rfl c7]
    rw [zs_iconst (z := 0) zd_86_267 (by decide)]
    exact zt_M_read_268  H
  · rw [if_neg c7] at H
    rw [zp_if_ne_f (x := (σ 82 9)) (t := 267) zd_86_260 rfl c7]
    rw [zs_iconst (z := 1) zd_86_263 (by decide)]
    rw [zs_goto (t := 268) zd_86_264 rfl]
    exact zt_M_read_268  H
set_option maxRecDepth 20000 in
theorem zt_M_read_244 {a b L N : Nat} {σ : zS} {τ : zT} {o1 : Option Value} {r : Int32 × zS} (H : zb_M_read_244 N σ = some r) : zx_go 7 86 244 [some (.ref 82), o1] [] ((119, a, b), zx_pk (zK L) 119, σ, τ, zR) = some (some (.int r.1), ((119, a, b), zx_pk (zK L) 119, r.2, τ, zR)) := by
  unfold zb_M_read_244 at H
  rw [zs_aload_n (ls := [some (.ref 82), o1]) zd_86_244 rfl]
  rw [zp_getZ (n := 119) (K := zx_pk (zK L) 119) (σ := σ) (c := 12) (k := 9) (q := 82) (v := (σ 82 9)) zd_86_245 rfl rfl rfl (by decide) rfl]
  by_cases c6 : ¬ (σ 82 9) = 0
  · rw [if_pos c6] at H
    rw [zp_if_ne_t (x := (σ 82 9)) (t := 255) zd_86_248 rfl c6]
    exact zt_M_read_255  H
  · rw [if_neg c6] at H
    rw [zp_if_ne_f (x := (σ 82 9)) (t := 255) zd_86_248 rfl c6]
    rw [zs_aload_n (ls := [some (.ref 82), o1]) zd_86_251 rfl]
    obtain ⟨r11, hr11, H⟩ := Option.bind_eq_some_iff.mp H
    rw [zp_callVv (st := [.ref 82]) (as := [.ref 82]) (rest := []) (e := 0) zd_86_252 rfl (by decide +kernel) (by decide) rfl rfl (Nat.le_of_ble_eq_true rfl) (zx_rcb_ok rfl (show 82 < 119 by decide)) (Nat.le_of_ble_eq_true rfl) rfl (by decide) (zt_M_findLaters hr11)]
    exact zt_M_read_255  H
set_option maxRecDepth 20000 in
theorem zt_M_read_226 {a b L N : Nat} {σ : zS} {τ : zT} {o1 : Option Value} {r : Int32 × zS} (H : zb_M_read_226 N σ = some r) : zx_go 7 86 226 [some (.ref 82), o1] [] ((119, a, b), zx_pk (zK L) 119, σ, τ, zR) = some (some (.int r.1), ((119, a, b), zx_pk (zK L) 119, r.2, τ, zR)) := by
  unfold zb_M_read_226 at H
  rw [zs_aload_n (ls := [some (.ref 82), o1]) zd_86_226 rfl]
  rw [zp_getZ (n := 119) (K := zx_pk (zK L) 119) (σ := σ) (c := 12) (k := 9) (q := 82) (v := (σ 82 9)) zd_86_227 rfl rfl rfl (by decide) rfl]
  by_cases c5 : ¬ (σ 82 9) = 0
  · rw [if_pos c5] at H
    rw [zp_if_ne_t (x := (σ 82 9)) (t := 244) zd_86_230 rfl c5]
    exact zt_M_read_244  H
  · rw [if_neg c5] at H
    rw [zp_if_ne_f (x := (σ 82 9)) (t := 244) zd_86_230 rfl c5]
    rw [zs_aload_n (ls := [some (.ref 82), o1]) zd_86_233 rfl]
    rw [zp_getI (n := 119) (K := zx_pk (zK L) 119) (σ := σ) (c := 12) (k := 7) (q := 82) (v := (σ 82 7)) zd_86_234 rfl rfl rfl (by decide) rfl]
    by_cases c12 : (σ 82 7) = 0
    · rw [if_pos c12] at H
      rw [zp_if_eq_t (x := (σ 82 7)) (t := 244) zd_86_237 rfl c12]
      exact zt_M_read_244  H
    · rw [if_neg c12] at H
      rw [zp_if_eq_f (x := (σ 82 7)) (t := 244) zd_86_237 rfl c12]
      rw [zs_aload_n (ls := [some (.ref 82), o1]) zd_86_240 rfl]
      obtain ⟨r13, hr13, H⟩ := Option.bind_eq_some_iff.mp H
      rw [zp_callVv (st := [.ref 82]) (as := [.ref 82]) (rest := []) (e := 1) zd_86_241 rfl (by decide +kernel) (by decide) rfl rfl (Nat.le_of_ble_eq_true rfl) (zx_rcb_ok rfl (show 82 < 119 by decide)) (Nat.le_of_ble_eq_true rfl) rfl (by decide) (zt_M_cannot hr13)]
      exact zt_M_read_244  H
set_option maxRecDepth 20000 in
theorem zt_M_read_204 {a b L N : Nat} : ∀ {n : Nat} {σ : zS} {τ : zT} {o1 : Option Value} {r : Int32 × zS}, zb_M_read_204 N n σ = some r → zx_go 7 86 204 [some (.ref 82), o1] [] ((119, a, b), zx_pk (zK L) 119, σ, τ, zR) = some (some (.int r.1), ((119, a, b), zx_pk (zK L) 119, r.2, τ, zR)) := by
  intro n
  induction n with
  | zero =>
    intro _ _ _ _ H
    cases H
  | succ n ih =>
    intro σ τ o1 r H
    rw [zb_M_read_204] at H
    rw [zs_aload_n (ls := [some (.ref 82), o1]) zd_86_204 rfl]
    rw [zp_getZ (n := 119) (K := zx_pk (zK L) 119) (σ := σ) (c := 12) (k := 9) (q := 82) (v := (σ 82 9)) zd_86_205 rfl rfl rfl (by decide) rfl]
    by_cases c4 : ¬ (σ 82 9) = 0
    · rw [if_pos c4] at H
      rw [zp_if_ne_t (x := (σ 82 9)) (t := 226) zd_86_208 rfl c4]
      exact zt_M_read_226  H
    · rw [if_neg c4] at H
      rw [zp_if_ne_f (x := (σ 82 9)) (t := 226) zd_86_208 rfl c4]
      rw [zs_aload_n (ls := [some (.ref 82), o1]) zd_86_211 rfl]
      rw [zs_iconst (z := 4) zd_86_212 (by decide)]
      obtain ⟨r14, hr14, H⟩ := Option.bind_eq_some_iff.mp H
      rw [zp_callVi (x := r14) (st := [.int 4, .ref 82]) (as := [.ref 82, .int 4]) (rest := []) (e := 0) zd_86_213 rfl (by decide +kernel) (by decide) rfl rfl (Nat.le_of_ble_eq_true rfl) (zx_rcb_ok rfl (show 82 < 119 by decide)) (Nat.le_of_ble_eq_true rfl) rfl (by decide) (zt_M_isWord hr14)]
      by_cases c15 : r14 = 0
      · rw [if_pos c15] at H
        rw [zp_if_eq_t (x := r14) (t := 226) zd_86_216 rfl c15]
        exact zt_M_read_226  H
      · rw [if_neg c15] at H
        rw [zp_if_eq_f (x := r14) (t := 226) zd_86_216 rfl c15]
        rw [zs_aload_n (ls := [some (.ref 82), o1]) zd_86_219 rfl]
        obtain ⟨r16, hr16, H⟩ := Option.bind_eq_some_iff.mp H
        rw [zp_callVv (st := [.ref 82]) (as := [.ref 82]) (rest := []) (e := 6) zd_86_220 rfl (by decide +kernel) (by decide) rfl rfl (Nat.le_of_ble_eq_true rfl) (zx_rcb_ok rfl (show 82 < 119 by decide)) (Nat.le_of_ble_eq_true rfl) rfl (by decide) (zt_M_readThread hr16)]
        rw [zs_goto (t := 204) zd_86_223 rfl]
        exact ih H
set_option maxRecDepth 20000 in
theorem zt_M_read_180 {a b L N : Nat} {k105 : zS → Option (Int32 × zS)} (hk105 : ∀ {σ : zS} {τ : zT} {o1 : Option Value} {r : Int32 × zS}, k105 σ = some r → zx_go 7 86 105 [some (.ref 82), o1] [] ((119, a, b), zx_pk (zK L) 119, σ, τ, zR) = some (some (.int r.1), ((119, a, b), zx_pk (zK L) 119, r.2, τ, zR))) {σ : zS} {τ : zT} {s0 : Int32} {o1 : Option Value} {r : Int32 × zS} (H : zb_M_read_180 k105 N σ s0 = some r) : zx_go 7 86 180 [some (.ref 82), o1] [.int s0, .ref 82] ((119, a, b), zx_pk (zK L) 119, σ, τ, zR) = some (some (.int r.1), ((119, a, b), zx_pk (zK L) 119, r.2, τ, zR)) := by
  unfold zb_M_read_180 at H
  rw [zs_putI (n := 119) (K := zx_pk (zK L) 119) (c := 12) (k := 16) (q := 82) (x := s0) zd_86_180 rfl rfl (by decide +kernel) rfl (by decide)]
  rw [zs_aload_n (ls := [some (.ref 82), o1]) zd_86_183 rfl]
  rw [zs_bipush (z := 59) zd_86_184 (by decide)]
  obtain ⟨r26, hr26, H⟩ := Option.bind_eq_some_iff.mp H
  rw [zp_callVv (st := [.int 59, .ref 82]) (as := [.ref 82, .int 59]) (rest := []) (e := 3) zd_86_186 rfl (by decide +kernel) (by decide) rfl rfl (Nat.le_of_ble_eq_true rfl) (zx_rcb_ok rfl (show 82 < 119 by decide)) (Nat.le_of_ble_eq_true rfl) rfl (by decide) (zt_M_take hr26)]
  rw [zs_goto (t := 105) zd_86_189 rfl]
  exact hk105 H
set_option maxRecDepth 20000 in
theorem zt_M_read_136 {a b L N : Nat} {k105 : zS → Option (Int32 × zS)} (hk105 : ∀ {σ : zS} {τ : zT} {o1 : Option Value} {r : Int32 × zS}, k105 σ = some r → zx_go 7 86 105 [some (.ref 82), o1] [] ((119, a, b), zx_pk (zK L) 119, σ, τ, zR) = some (some (.int r.1), ((119, a, b), zx_pk (zK L) 119, r.2, τ, zR))) {σ : zS} {τ : zT} {o1 : Option Value} {r : Int32 × zS} (H : zb_M_read_136 k105 N σ = some r) : zx_go 7 86 136 [some (.ref 82), o1] [] ((119, a, b), zx_pk (zK L) 119, σ, τ, zR) = some (some (.int r.1), ((119, a, b), zx_pk (zK L) 119, r.2, τ, zR)) := by
  unfold zb_M_read_136 at H
  rw [zs_aload_n (ls := [some (.ref 82), o1]) zd_86_136 rfl]
  rw [zs_iconst (z := 3) zd_86_137 (by decide)]
  obtain ⟨r19, hr19, H⟩ := Option.bind_eq_some_iff.mp H
  rw [zp_callVi (x := r19) (st := [.int 3, .ref 82]) (as := [.ref 82, .int 3]) (rest := []) (e := 0) zd_86_138 rfl (by decide +kernel) (by decide) rfl rfl (Nat.le_of_ble_eq_true rfl) (zx_rcb_ok rfl (show 82 < 119 by decide)) (Nat.le_of_ble_eq_true rfl) rfl (by decide) (zt_M_isWord hr19)]
  by_cases c20 : r19 = 0
  · rw [if_pos c20] at H
    rw [zp_if_eq_t (x := r19) (t := 192) zd_86_141 rfl c20]
    rw [zs_aload_n (ls := [some (.ref 82), o1]) zd_86_192 rfl]
    rw [zs_aload_n (ls := [some (.ref 82), o1]) zd_86_193 rfl]
    rw [zs_iconst (z := 2) zd_86_194 (by decide)]
    obtain ⟨r21, hr21, H⟩ := Option.bind_eq_some_iff.mp H
    rw [zp_callVi (x := r21) (st := [.int 2, .ref 82, .ref 82]) (as := [.ref 82, .int 2]) (rest := [.ref 82]) (e := 0) zd_86_195 rfl (by decide +kernel) (by decide) rfl rfl (Nat.le_of_ble_eq_true rfl) (zx_rcb_ok rfl (show 82 < 119 by decide)) (Nat.le_of_ble_eq_true rfl) rfl (by decide) (zt_M_isWord hr21)]
    obtain ⟨r22, hr22, H⟩ := Option.bind_eq_some_iff.mp H
    rw [zp_callVv (st := [.int r21, .ref 82]) (as := [.ref 82, .int r21]) (rest := []) (e := 4) zd_86_198 rfl (by decide +kernel) (by decide) rfl rfl (Nat.le_of_ble_eq_true rfl) (zx_rcb_ok rfl (show 82 < 119 by decide)) (Nat.le_of_ble_eq_true rfl) rfl (by decide) (zt_M_readField hr22)]
    rw [zs_goto (t := 105) zd_86_201 rfl]
    exact hk105 H
  · rw [if_neg c20] at H
    rw [zp_if_eq_f (x := r19) (t := 192) zd_86_141 rfl c20]
    rw [zs_aload_n (ls := [some (.ref 82), o1]) zd_86_144 rfl]
    obtain ⟨r23, hr23, H⟩ := Option.bind_eq_some_iff.mp H
    rw [zp_callVv (st := [.ref 82]) (as := [.ref 82]) (rest := []) (e := 2) zd_86_145 rfl (by decide +kernel) (by decide) rfl rfl (Nat.le_of_ble_eq_true rfl) (zx_rcb_ok rfl (show 82 < 119 by decide)) (Nat.le_of_ble_eq_true rfl) rfl (by decide) (zt_M_next hr23)]
    rw [zs_aload_n (ls := [some (.ref 82), o1]) zd_86_148 rfl]
    rw [zs_bipush (z := 6) zd_86_149 (by decide)]
    rw [zs_aload_n (ls := [some (.ref 82), o1]) zd_86_151 rfl]
    rw [zp_getI (n := 119) (K := zx_pk (zK L) 119) (σ := r23) (c := 12) (k := 16) (q := 82) (v := (r23 82 16)) zd_86_152 rfl rfl rfl (by decide) rfl]
    rw [zs_iconst (z := 4) zd_86_155 (by decide)]
    obtain ⟨r24, hr24, H⟩ := Option.bind_eq_some_iff.mp H
    rw [zp_callVv (st := [.int 4, .int (r23 82 16), .int 6, .ref 82]) (as := [.ref 82, .int 6, .int (r23 82 16), .int 4]) (rest := []) (e := 3) zd_86_156 rfl (by decide +kernel) (by decide) rfl rfl (Nat.le_of_ble_eq_true rfl) (zx_rcb_ok rfl (show 82 < 119 by decide)) (Nat.le_of_ble_eq_true rfl) rfl (by decide) (zt_M_readTold hr24)]
    rw [zs_aload_n (ls := [some (.ref 82), o1]) zd_86_159 rfl]
    rw [zs_aload_n (ls := [some (.ref 82), o1]) zd_86_160 rfl]
    rw [zp_getZ (n := 119) (K := zx_pk (zK L) 119) (σ := r24) (c := 12) (k := 9) (q := 82) (v := (r24 82 9)) zd_86_161 rfl rfl rfl (by decide) rfl]
    by_cases c25 : (r24 82 9) = 0
    · rw [if_pos c25] at H
      rw [zp_if_eq_t (x := (r24 82 9)) (t := 174) zd_86_164 rfl c25]
      rw [zs_aload_n (ls := [some (.ref 82), o1]) zd_86_174 rfl]
      rw [zp_getI (n := 119) (K := zx_pk (zK L) 119) (σ := r24) (c := 12) (k := 16) (q := 82) (v := (r24 82 16)) zd_86_175 rfl rfl rfl (by decide) rfl]
      rw [zs_iconst (z := 1) zd_86_178 (by decide)]
      rw [zp_iadd (x := (r24 82 16)) (y := 1) (z := ((r24 82 16) + 1)) zd_86_179 rfl]
      exact zt_M_read_180 (hk105 := hk105) H
    · rw [if_neg c25] at H
      rw [zp_if_eq_f (x := (r24 82 9)) (t := 174) zd_86_164 rfl c25]
      rw [zs_aload_n (ls := [some (.ref 82), o1]) zd_86_167 rfl]
      rw [zp_getI (n := 119) (K := zx_pk (zK L) 119) (σ := r24) (c := 12) (k := 16) (q := 82) (v := (r24 82 16)) zd_86_168 rfl rfl rfl (by decide) rfl]
      rw [zs_goto (t := 180) zd_86_171 rfl]
      exact zt_M_read_180 (hk105 := hk105) H
set_option maxRecDepth 20000 in
theorem zt_M_read_105 {a b L N : Nat} : ∀ {n : Nat} {σ : zS} {τ : zT} {o1 : Option Value} {r : Int32 × zS}, zb_M_read_105 N n σ = some r → zx_go 7 86 105 [some (.ref 82), o1] [] ((119, a, b), zx_pk (zK L) 119, σ, τ, zR) = some (some (.int r.1), ((119, a, b), zx_pk (zK L) 119, r.2, τ, zR)) := by
  intro n
  induction n with
  | zero =>
    intro _ _ _ _ H
    cases H
  | succ n ih =>
    intro σ τ o1 r H
    rw [zb_M_read_105] at H
    rw [zs_aload_n (ls := [some (.ref 82), o1]) zd_86_105 rfl]
    rw [zp_getZ (n := 119) (K := zx_pk (zK L) 119) (σ := σ) (c := 12) (k := 9) (q := 82) (v := (σ 82 9)) zd_86_106 rfl rfl rfl (by decide) rfl]
    by_cases c3 : ¬ (σ 82 9) = 0
    · rw [if_pos c3] at H
      rw [zp_if_ne_t (x := (σ 82 9)) (t := 204) zd_86_109 rfl c3]
      exact zt_M_read_204  H
    · rw [if_neg c3] at H
      rw [zp_if_ne_f (x := (σ 82 9)) (t := 204) zd_86_109 rfl c3]
      rw [zs_aload_n (ls := [some (.ref 82), o1]) zd_86_112 rfl]
      rw [zs_iconst (z := 1) zd_86_113 (by decide)]
      obtain ⟨r17, hr17, H⟩ := Option.bind_eq_some_iff.mp H
      rw [zp_callVi (x := r17) (st := [.int 1, .ref 82]) (as := [.ref 82, .int 1]) (rest := []) (e := 0) zd_86_114 rfl (by decide +kernel) (by decide) rfl rfl (Nat.le_of_ble_eq_true rfl) (zx_rcb_ok rfl (show 82 < 119 by decide)) (Nat.le_of_ble_eq_true rfl) rfl (by decide) (zt_M_isWord hr17)]
      by_cases c18 : ¬ r17 = 0
      · rw [if_pos c18] at H
        rw [zp_if_ne_t (x := r17) (t := 136) zd_86_117 rfl c18]
        exact zt_M_read_136 (hk105 := ih) H
      · rw [if_neg c18] at H
        rw [zp_if_ne_f (x := r17) (t := 136) zd_86_117 rfl c18]
        rw [zs_aload_n (ls := [some (.ref 82), o1]) zd_86_120 rfl]
        rw [zs_iconst (z := 2) zd_86_121 (by decide)]
        obtain ⟨r27, hr27, H⟩ := Option.bind_eq_some_iff.mp H
        rw [zp_callVi (x := r27) (st := [.int 2, .ref 82]) (as := [.ref 82, .int 2]) (rest := []) (e := 0) zd_86_122 rfl (by decide +kernel) (by decide) rfl rfl (Nat.le_of_ble_eq_true rfl) (zx_rcb_ok rfl (show 82 < 119 by decide)) (Nat.le_of_ble_eq_true rfl) rfl (by decide) (zt_M_isWord hr27)]
        by_cases c28 : ¬ r27 = 0
        · rw [if_pos c28] at H
          rw [zp_if_ne_t (x := r27) (t := 136) zd_86_125 rfl c28]
          exact zt_M_read_136 (hk105 := ih) H
        · rw [if_neg c28] at H
          rw [zp_if_ne_f (x := r27) (t := 136) zd_86_125 rfl c28]
          rw [zs_aload_n (ls := [some (.ref 82), o1]) zd_86_128 rfl]
          rw [zs_iconst (z := 3) zd_86_129 (by decide)]
          obtain ⟨r29, hr29, H⟩ := Option.bind_eq_some_iff.mp H
          rw [zp_callVi (x := r29) (st := [.int 3, .ref 82]) (as := [.ref 82, .int 3]) (rest := []) (e := 0) zd_86_130 rfl (by decide +kernel) (by decide) rfl rfl (Nat.le_of_ble_eq_true rfl) (zx_rcb_ok rfl (show 82 < 119 by decide)) (Nat.le_of_ble_eq_true rfl) rfl (by decide) (zt_M_isWord hr29)]
          by_cases c30 : r29 = 0
          · rw [if_pos c30] at H
            rw [zp_if_eq_t (x := r29) (t := 204) zd_86_133 rfl c30]
            exact zt_M_read_204  H
          · rw [if_neg c30] at H
            rw [zp_if_eq_f (x := r29) (t := 204) zd_86_133 rfl c30]
            exact zt_M_read_136 (hk105 := ih) H
set_option maxRecDepth 20000 in
theorem zt_M_read_20 {a b L N : Nat} : ∀ {n : Nat} {σ : zS} {τ : zT} {v1 : Int32} {r : Int32 × zS}, zb_M_read_20 N n σ v1 = some r → zx_go 7 86 20 [some (.ref 82), some (.int v1)] [] ((119, a, b), zx_pk (zK L) 119, σ, τ, zR) = some (some (.int r.1), ((119, a, b), zx_pk (zK L) 119, r.2, τ, zR)) := by
  intro n
  induction n with
  | zero =>
    intro _ _ _ _ H
    cases H
  | succ n ih =>
    intro σ τ v1 r H
    rw [zb_M_read_20] at H
    rw [zs_iload_n (ls := [some (.ref 82), some (.int v1)]) zd_86_20 rfl]
    rw [zs_aload_n (ls := [some (.ref 82), some (.int v1)]) zd_86_21 rfl]
    rw [zp_getI (n := 119) (K := zx_pk (zK L) 119) (σ := σ) (c := 12) (k := 4) (q := 82) (v := (σ 82 4)) zd_86_22 rfl rfl rfl (by decide) rfl]
    by_cases c1 : (σ 82 4) ≤ v1
    · rw [if_pos c1] at H
      rw [zp_icmp_ge_t (x := v1) (y := (σ 82 4)) (t := 46) zd_86_25 rfl c1]
      rw [zs_aload_n (ls := [some (.ref 82), some (.int v1)]) zd_86_46 rfl]
      rw [zs_iconst (z := 0) zd_86_47 (by decide)]
      rw [zs_putZ (n := 119) (K := zx_pk (zK L) 119) (c := 12) (k := 9) (q := 82) (x := 0) zd_86_48 rfl rfl (by decide +kernel) rfl (by decide) rfl]
      rw [zs_aload_n (ls := [some (.ref 82), some (.int v1)]) zd_86_51 rfl]
      rw [zs_iconst (z := 0) zd_86_52 (by decide)]
      rw [zs_putI (n := 119) (K := zx_pk (zK L) 119) (c := 12) (k := 10) (q := 82) (x := 0) zd_86_53 rfl rfl (by decide +kernel) rfl (by decide)]
      rw [zs_aload_n (ls := [some (.ref 82), some (.int v1)]) zd_86_56 rfl]
      rw [zs_iconst (z := 0) zd_86_57 (by decide)]
      rw [zs_putI (n := 119) (K := zx_pk (zK L) 119) (c := 12) (k := 15) (q := 82) (x := 0) zd_86_58 rfl rfl (by decide +kernel) rfl (by decide)]
      rw [zs_aload_n (ls := [some (.ref 82), some (.int v1)]) zd_86_61 rfl]
      rw [zs_iconst (z := 0) zd_86_62 (by decide)]
      rw [zs_putI (n := 119) (K := zx_pk (zK L) 119) (c := 12) (k := 16) (q := 82) (x := 0) zd_86_63 rfl rfl (by decide +kernel) rfl (by decide)]
      rw [zs_aload_n (ls := [some (.ref 82), some (.int v1)]) zd_86_66 rfl]
      rw [zs_iconst (z := 0) zd_86_67 (by decide)]
      rw [zs_putI (n := 119) (K := zx_pk (zK L) 119) (c := 12) (k := 17) (q := 82) (x := 0) zd_86_68 rfl rfl (by decide +kernel) rfl (by decide)]
      rw [zs_aload_n (ls := [some (.ref 82), some (.int v1)]) zd_86_71 rfl]
      rw [zs_iconst (z := 0) zd_86_72 (by decide)]
      rw [zs_putI (n := 119) (K := zx_pk (zK L) 119) (c := 12) (k := 25) (q := 82) (x := 0) zd_86_73 rfl rfl (by decide +kernel) rfl (by decide)]
      rw [zs_aload_n (ls := [some (.ref 82), some (.int v1)]) zd_86_76 rfl]
      rw [zs_iconst (z := 0) zd_86_77 (by decide)]
      rw [zs_putI (n := 119) (K := zx_pk (zK L) 119) (c := 12) (k := 19) (q := 82) (x := 0) zd_86_78 rfl rfl (by decide +kernel) rfl (by decide)]
      rw [zs_aload_n (ls := [some (.ref 82), some (.int v1)]) zd_86_81 rfl]
      rw [zs_iconst (z := 0) zd_86_82 (by decide)]
      rw [zs_putI (n := 119) (K := zx_pk (zK L) 119) (c := 12) (k := 5) (q := 82) (x := 0) zd_86_83 rfl rfl (by decide +kernel) rfl (by decide)]
      rw [zs_aload_n (ls := [some (.ref 82), some (.int v1)]) zd_86_86 rfl]
      rw [zs_iconst (z := 0) zd_86_87 (by decide)]
      rw [zs_putI (n := 119) (K := zx_pk (zK L) 119) (c := 12) (k := 6) (q := 82) (x := 0) zd_86_88 rfl rfl (by decide +kernel) rfl (by decide)]
      rw [zs_aload_n (ls := [some (.ref 82), some (.int v1)]) zd_86_91 rfl]
      rw [zs_iconst (z := 0) zd_86_92 (by decide)]
      rw [zs_putZ (n := 119) (K := zx_pk (zK L) 119) (c := 12) (k := 53) (q := 82) (x := 0) zd_86_93 rfl rfl (by decide +kernel) rfl (by decide) rfl]
      rw [zs_aload_n (ls := [some (.ref 82), some (.int v1)]) zd_86_96 rfl]
      rw [zs_iconst (z := (-1)) zd_86_97 (by decide)]
      rw [zs_putI (n := 119) (K := zx_pk (zK L) 119) (c := 12) (k := 62) (q := 82) (x := (-1)) zd_86_98 rfl rfl (by decide +kernel) rfl (by decide)]
      rw [zs_aload_n (ls := [some (.ref 82), some (.int v1)]) zd_86_101 rfl]
      obtain ⟨r2, hr2, H⟩ := Option.bind_eq_some_iff.mp H
      rw [zp_callVv (st := [.ref 82]) (as := [.ref 82]) (rest := []) (e := 2) zd_86_102 rfl (by decide +kernel) (by decide) rfl rfl (Nat.le_of_ble_eq_true rfl) (zx_rcb_ok rfl (show 82 < 119 by decide)) (Nat.le_of_ble_eq_true rfl) rfl (by decide) (zt_M_next hr2)]
      exact zt_M_read_105  H
    · rw [if_neg c1] at H
      rw [zp_icmp_ge_f (x := v1) (y := (σ 82 4)) (t := 46) zd_86_25 rfl c1]
      rw [zs_aload_n (ls := [some (.ref 82), some (.int v1)]) zd_86_28 rfl]
      rw [zs_getR (n := 119) (K := zx_pk (zK L) 119) (ρ := zR) (c := 12) (k := 3) (q := 82) (p := 84) zd_86_29 rfl rfl rfl (by decide) rfl]
      rw [zs_iload_n (ls := [some (.ref 82), some (.int v1)]) zd_86_32 rfl]
      rw [zs_aload_n (ls := [some (.ref 82), some (.int v1)]) zd_86_33 rfl]
      rw [zs_getR (n := 119) (K := zx_pk (zK L) 119) (ρ := zR) (c := 12) (k := 1) (q := 82) (p := 83) zd_86_34 rfl rfl rfl (by decide) rfl]
      rw [zs_iload_n (ls := [some (.ref 82), some (.int v1)]) zd_86_37 rfl]
      by_cases c31 : 0 ≤ v1 ∧ v1 < 1500
      · rw [if_pos c31] at H
        rw [zp_baload (n := 119) (K := zx_pk (zK L) 119) (σ := σ) (q := 83) (m := 1500) (i := v1) (k := v1.toNatClampNeg) (v := (σ 83 v1.toNatClampNeg)) zd_86_38 rfl (by decide) (zJ_in c31 rfl) rfl rfl]
        by_cases c32 : 0 ≤ v1 ∧ v1 < 1500
        · rw [if_pos c32] at H
          rw [zp_bastore (n := 119) (K := zx_pk (zK L) 119) (q := 84) (m := 1500) (i := v1) (k := v1.toNatClampNeg) (x := (σ 83 v1.toNatClampNeg)) (z := (zJ_byte (σ 83 v1.toNatClampNeg))) zd_86_39 rfl ⟨by decide, by decide⟩ (zJ_in c32 rfl) rfl rfl]
          rw [zs_iinc (ls := [some (.ref 82), some (.int v1)]) (x := v1) (z := (v1 + 1)) (ls' := [some (.ref 82), some (.int (v1 + 1))]) zd_86_40 rfl rfl rfl]
          rw [zs_goto (t := 20) zd_86_43 rfl]
          exact ih H
        · rw [if_neg c32] at H
          cases H
      · rw [if_neg c31] at H
        cases H
set_option maxRecDepth 20000 in
theorem zt_M_read {a b L N : Nat} {σ : zS} {τ : zT} {r : Int32 × zS} (H : zf_M_read N σ = some r) : zx_go 7 86 0 [some (.ref 82), none] [] ((119, a, b), zx_pk (zK L) 119, σ, τ, zR) = some (some (.int r.1), ((119, a, b), zx_pk (zK L) 119, r.2, τ, zR)) := by
  unfold zf_M_read at H
  rw [zs_aload_n (ls := [some (.ref 82), none]) zd_86_0 rfl]
  rw [zs_iconst (z := 0) zd_86_1 (by decide)]
  rw [zs_putI (n := 119) (K := zx_pk (zK L) 119) (c := 12) (k := 0) (q := 82) (x := 0) zd_86_2 rfl rfl (by decide +kernel) rfl (by decide)]
  rw [zs_aload_n (ls := [some (.ref 82), none]) zd_86_5 rfl]
  rw [zs_aload_n (ls := [some (.ref 82), none]) zd_86_6 rfl]
  rw [zp_getI (n := 119) (K := zx_pk (zK L) 119) (σ := (zx_up σ 82 0 0)) (c := 12) (k := 2) (q := 82) (v := (σ 82 2)) zd_86_7 rfl rfl rfl (by decide) (show ((zx_up σ 82 0 0) : zS) 82 2 = (σ 82 2) from ((zx_up_nj (by decide)).trans rfl))]
  rw [zs_putI (n := 119) (K := zx_pk (zK L) 119) (c := 12) (k := 4) (q := 82) (x := (σ 82 2)) zd_86_10 rfl rfl (by decide +kernel) rfl (by decide)]
  rw [zs_aload_n (ls := [some (.ref 82), none]) zd_86_13 rfl]
  rw [zs_iconst (z := 0) zd_86_14 (by decide)]
  rw [zs_putI (n := 119) (K := zx_pk (zK L) 119) (c := 12) (k := 2) (q := 82) (x := 0) zd_86_15 rfl rfl (by decide +kernel) rfl (by decide)]
  rw [zs_iconst (z := 0) zd_86_18 (by decide)]
  rw [zs_istore_n (x := 0) (ls' := [some (.ref 82), some (.int 0)]) zd_86_19 (Nat.le_of_ble_eq_true rfl) rfl]
  exact zt_M_read_20  H
set_option maxRecDepth 20000 in
theorem zt_X_fault {a b L : Nat} {σ : zS} {τ : zT} {r : Int32} (H : zf_X_fault σ = some r) : zx_go 0 122 0 [some (.ref 2)] [] ((119, a, b), zx_pk (zK L) 119, σ, τ, zR) = some (some (.int r), ((119, a, b), zx_pk (zK L) 119, σ, τ, zR)) := by
  unfold zf_X_fault at H
  rw [zs_aload_n (ls := [some (.ref 2)]) zd_122_0 rfl]
  rw [zp_getI (n := 119) (K := zx_pk (zK L) 119) (σ := σ) (c := 11) (k := 12) (q := 2) (v := (σ 2 12)) zd_122_1 rfl rfl rfl (by decide) rfl]
  have H := Option.some.inj H
  subst H
  exact zs_ireturn zd_122_4 rfl
set_option maxRecDepth 20000 in
theorem zt_M_fault {a b L : Nat} {σ : zS} {τ : zT} {r : Int32 × zS} (H : zf_M_fault σ = some r) : zx_go 0 123 0 [some (.ref 82)] [] ((119, a, b), zx_pk (zK L) 119, σ, τ, zR) = some (some (.int r.1), ((119, a, b), zx_pk (zK L) 119, r.2, τ, zR)) := by
  unfold zf_M_fault at H
  rw [zs_aload_n (ls := [some (.ref 82)]) zd_123_0 rfl]
  rw [zs_iconst (z := 0) zd_123_1 (by decide)]
  rw [zs_putI (n := 119) (K := zx_pk (zK L) 119) (c := 12) (k := 0) (q := 82) (x := 0) zd_123_2 rfl rfl (by decide +kernel) rfl (by decide)]
  rw [zs_aload_n (ls := [some (.ref 82)]) zd_123_5 rfl]
  rw [zp_getI (n := 119) (K := zx_pk (zK L) 119) (σ := (zx_up σ 82 0 0)) (c := 12) (k := 12) (q := 82) (v := (σ 82 12)) zd_123_6 rfl rfl rfl (by decide) (show ((zx_up σ 82 0 0) : zS) 82 12 = (σ 82 12) from ((zx_up_nj (by decide)).trans rfl))]
  have H := Option.some.inj H
  subst H
  exact zs_ireturn zd_123_9 rfl
set_option maxRecDepth 20000 in
theorem zt_X_count {a b L : Nat} {σ : zS} {τ : zT} {x1 : Int32} {r : Int32} (H : zf_X_count σ x1 = some r) : zx_go 0 124 0 [some (.ref 2), some (.int x1)] [] ((119, a, b), zx_pk (zK L) 119, σ, τ, zR) = some (some (.int r), ((119, a, b), zx_pk (zK L) 119, σ, τ, zR)) := by
  unfold zf_X_count at H
  rw [zs_aload_n (ls := [some (.ref 2), some (.int x1)]) zd_124_0 rfl]
  rw [zp_getZ (n := 119) (K := zx_pk (zK L) 119) (σ := σ) (c := 11) (k := 13) (q := 2) (v := (σ 2 13)) zd_124_1 rfl rfl rfl (by decide) rfl]
  by_cases c1 : ¬ (σ 2 13) = 0
  · rw [if_pos c1] at H
    rw [zp_if_ne_t (x := (σ 2 13)) (t := 10) zd_124_4 rfl c1]
    rw [zs_iload_n (ls := [some (.ref 2), some (.int x1)]) zd_124_10 rfl]
    by_cases c2 : x1 = 0
    · rw [if_pos c2] at H
      rw [zs_table (x := x1) (off := 33) (t := 44) zd_124_11 (by rw [c2]; decide) rfl]
      rw [zs_aload_n (ls := [some (.ref 2), some (.int x1)]) zd_124_44 rfl]
      rw [zs_getR (n := 119) (K := zx_pk (zK L) 119) (ρ := zR) (c := 11) (k := 1) (q := 2) (p := 4) zd_124_45 rfl rfl rfl (by decide) rfl]
      rw [zp_getI (n := 119) (K := zx_pk (zK L) 119) (σ := σ) (c := 6) (k := 0) (q := 4) (v := (σ 4 0)) zd_124_48 rfl rfl rfl (by decide) rfl]
      have H := Option.some.inj H
      subst H
      exact zs_ireturn zd_124_51 rfl
    · rw [if_neg c2] at H
      by_cases c3 : x1 = 1
      · rw [if_pos c3] at H
        rw [zs_table (x := x1) (off := 41) (t := 52) zd_124_11 (by rw [c3]; decide) rfl]
        rw [zs_aload_n (ls := [some (.ref 2), some (.int x1)]) zd_124_52 rfl]
        rw [zs_getR (n := 119) (K := zx_pk (zK L) 119) (ρ := zR) (c := 11) (k := 1) (q := 2) (p := 4) zd_124_53 rfl rfl rfl (by decide) rfl]
        rw [zp_getI (n := 119) (K := zx_pk (zK L) 119) (σ := σ) (c := 6) (k := 1) (q := 4) (v := (σ 4 1)) zd_124_56 rfl rfl rfl (by decide) rfl]
        have H := Option.some.inj H
        subst H
        exact zs_ireturn zd_124_59 rfl
      · rw [if_neg c3] at H
        by_cases c4 : x1 = 2
        · rw [if_pos c4] at H
          rw [zs_table (x := x1) (off := 49) (t := 60) zd_124_11 (by rw [c4]; decide) rfl]
          rw [zs_aload_n (ls := [some (.ref 2), some (.int x1)]) zd_124_60 rfl]
          rw [zs_getR (n := 119) (K := zx_pk (zK L) 119) (ρ := zR) (c := 11) (k := 1) (q := 2) (p := 4) zd_124_61 rfl rfl rfl (by decide) rfl]
          rw [zp_getI (n := 119) (K := zx_pk (zK L) 119) (σ := σ) (c := 6) (k := 2) (q := 4) (v := (σ 4 2)) zd_124_64 rfl rfl rfl (by decide) rfl]
          have H := Option.some.inj H
          subst H
          exact zs_ireturn zd_124_67 rfl
        · rw [if_neg c4] at H
          by_cases c5 : x1 = 3
          · rw [if_pos c5] at H
            rw [zs_table (x := x1) (off := 57) (t := 68) zd_124_11 (by rw [c5]; decide) rfl]
            rw [zs_aload_n (ls := [some (.ref 2), some (.int x1)]) zd_124_68 rfl]
            rw [zs_getR (n := 119) (K := zx_pk (zK L) 119) (ρ := zR) (c := 11) (k := 1) (q := 2) (p := 4) zd_124_69 rfl rfl rfl (by decide) rfl]
            rw [zp_getI (n := 119) (K := zx_pk (zK L) 119) (σ := σ) (c := 6) (k := 3) (q := 4) (v := (σ 4 3)) zd_124_72 rfl rfl rfl (by decide) rfl]
            have H := Option.some.inj H
            subst H
            exact zs_ireturn zd_124_75 rfl
          · rw [if_neg c5] at H
            by_cases c6 : x1 = 4
            · rw [if_pos c6] at H
              rw [zs_table (x := x1) (off := 65) (t := 76) zd_124_11 (by rw [c6]; decide) rfl]
              rw [zs_aload_n (ls := [some (.ref 2), some (.int x1)]) zd_124_76 rfl]
              rw [zs_getR (n := 119) (K := zx_pk (zK L) 119) (ρ := zR) (c := 11) (k := 1) (q := 2) (p := 4) zd_124_77 rfl rfl rfl (by decide) rfl]
              rw [zp_getI (n := 119) (K := zx_pk (zK L) 119) (σ := σ) (c := 6) (k := 4) (q := 4) (v := (σ 4 4)) zd_124_80 rfl rfl rfl (by decide) rfl]
              have H := Option.some.inj H
              subst H
              exact zs_ireturn zd_124_83 rfl
            · rw [if_neg c6] at H
              rw [zs_table (x := x1) (off := 73) (t := 84) zd_124_11 (if_pos (by have e : ∀ z : Int32, ¬ x1 = z → ¬ (x1 : Int32).toInt = z.toInt := fun z h q => h (Int32.toInt_inj.mp q); have q0 := e 0 c2; have q1 := e 1 c3; have q2 := e 2 c4; have q3 := e 3 c5; have q4 := e 4 c6; simp only [show (0 : Int32).toInt = 0 from rfl, show (1 : Int32).toInt = 1 from rfl, show (2 : Int32).toInt = 2 from rfl, show (3 : Int32).toInt = 3 from rfl, show (4 : Int32).toInt = 4 from rfl] at q0 q1 q2 q3 q4; omega)) rfl]
              rw [zs_bipush (z := (-102)) zd_124_84 (by decide)]
              have H := Option.some.inj H
              subst H
              exact zs_ireturn zd_124_86 (by decide +kernel)
  · rw [if_neg c1] at H
    rw [zp_if_ne_f (x := (σ 2 13)) (t := 10) zd_124_4 rfl c1]
    rw [zs_bipush (z := (-101)) zd_124_7 (by decide)]
    have H := Option.some.inj H
    subst H
    exact zs_ireturn zd_124_9 (by decide +kernel)
set_option maxRecDepth 20000 in
theorem zt_M_count {a b L N : Nat} {σ : zS} {τ : zT} {x1 : Int32} {r : Int32 × zS} (H : zf_M_count N σ x1 = some r) : zx_go 1 125 0 [some (.ref 82), some (.int x1)] [] ((119, a, b), zx_pk (zK L) 119, σ, τ, zR) = some (some (.int r.1), ((119, a, b), zx_pk (zK L) 119, r.2, τ, zR)) := by
  unfold zf_M_count at H
  rw [zs_aload_n (ls := [some (.ref 82), some (.int x1)]) zd_125_0 rfl]
  rw [zs_iconst (z := 0) zd_125_1 (by decide)]
  rw [zs_putI (n := 119) (K := zx_pk (zK L) 119) (c := 12) (k := 0) (q := 82) (x := 0) zd_125_2 rfl rfl (by decide +kernel) rfl (by decide)]
  rw [zs_aload_n (ls := [some (.ref 82), some (.int x1)]) zd_125_5 rfl]
  rw [zp_getZ (n := 119) (K := zx_pk (zK L) 119) (σ := (zx_up σ 82 0 0)) (c := 12) (k := 21) (q := 82) (v := (σ 82 21)) zd_125_6 rfl rfl rfl (by decide) (show ((zx_up σ 82 0 0) : zS) 82 21 = (σ 82 21) from ((zx_up_nj (by decide)).trans rfl))]
  by_cases c1 : ¬ (σ 82 21) = 0
  · rw [if_pos c1] at H
    rw [zp_if_ne_t (x := (σ 82 21)) (t := 15) zd_125_9 rfl c1]
    rw [zs_iload_n (ls := [some (.ref 82), some (.int x1)]) zd_125_15 rfl]
    by_cases c2 : x1 = 0
    · rw [if_pos c2] at H
      rw [zs_table (x := x1) (off := 36) (t := 52) zd_125_16 (by rw [c2]; decide) rfl]
      rw [zs_aload_n (ls := [some (.ref 82), some (.int x1)]) zd_125_52 rfl]
      rw [zp_getI (n := 119) (K := zx_pk (zK L) 119) (σ := (zx_up σ 82 0 0)) (c := 12) (k := 15) (q := 82) (v := (σ 82 15)) zd_125_53 rfl rfl rfl (by decide) (show ((zx_up σ 82 0 0) : zS) 82 15 = (σ 82 15) from ((zx_up_nj (by decide)).trans rfl))]
      have H := Option.some.inj H
      subst H
      exact zs_ireturn zd_125_56 rfl
    · rw [if_neg c2] at H
      by_cases c3 : x1 = 1
      · rw [if_pos c3] at H
        rw [zs_table (x := x1) (off := 41) (t := 57) zd_125_16 (by rw [c3]; decide) rfl]
        rw [zs_aload_n (ls := [some (.ref 82), some (.int x1)]) zd_125_57 rfl]
        rw [zp_getI (n := 119) (K := zx_pk (zK L) 119) (σ := (zx_up σ 82 0 0)) (c := 12) (k := 16) (q := 82) (v := (σ 82 16)) zd_125_58 rfl rfl rfl (by decide) (show ((zx_up σ 82 0 0) : zS) 82 16 = (σ 82 16) from ((zx_up_nj (by decide)).trans rfl))]
        have H := Option.some.inj H
        subst H
        exact zs_ireturn zd_125_61 rfl
      · rw [if_neg c3] at H
        by_cases c4 : x1 = 2
        · rw [if_pos c4] at H
          rw [zs_table (x := x1) (off := 46) (t := 62) zd_125_16 (by rw [c4]; decide) rfl]
          rw [zs_aload_n (ls := [some (.ref 82), some (.int x1)]) zd_125_62 rfl]
          rw [zp_getI (n := 119) (K := zx_pk (zK L) 119) (σ := (zx_up σ 82 0 0)) (c := 12) (k := 17) (q := 82) (v := (σ 82 17)) zd_125_63 rfl rfl rfl (by decide) (show ((zx_up σ 82 0 0) : zS) 82 17 = (σ 82 17) from ((zx_up_nj (by decide)).trans rfl))]
          have H := Option.some.inj H
          subst H
          exact zs_ireturn zd_125_66 rfl
        · rw [if_neg c4] at H
          by_cases c5 : x1 = 3
          · rw [if_pos c5] at H
            rw [zs_table (x := x1) (off := 51) (t := 67) zd_125_16 (by rw [c5]; decide) rfl]
            rw [zs_aload_n (ls := [some (.ref 82), some (.int x1)]) zd_125_67 rfl]
            rw [zp_getI (n := 119) (K := zx_pk (zK L) 119) (σ := (zx_up σ 82 0 0)) (c := 12) (k := 25) (q := 82) (v := (σ 82 25)) zd_125_68 rfl rfl rfl (by decide) (show ((zx_up σ 82 0 0) : zS) 82 25 = (σ 82 25) from ((zx_up_nj (by decide)).trans rfl))]
            have H := Option.some.inj H
            subst H
            exact zs_ireturn zd_125_71 rfl
          · rw [if_neg c5] at H
            by_cases c6 : x1 = 4
            · rw [if_pos c6] at H
              rw [zs_table (x := x1) (off := 56) (t := 72) zd_125_16 (by rw [c6]; decide) rfl]
              rw [zs_aload_n (ls := [some (.ref 82), some (.int x1)]) zd_125_72 rfl]
              obtain ⟨r7, hr7, H⟩ := Option.bind_eq_some_iff.mp H
              rw [zp_callVi (x := r7) (st := [.ref 82]) (as := [.ref 82]) (rest := []) (e := 0) zd_125_73 rfl (by decide +kernel) (by decide) rfl rfl (Nat.le_of_ble_eq_true rfl) (zx_rcb_ok rfl (show 82 < 119 by decide)) (Nat.le_of_ble_eq_true rfl) rfl (by decide) (zt_M_allSteps hr7)]
              have H := Option.some.inj H
              subst H
              exact zs_ireturn zd_125_76 rfl
            · rw [if_neg c6] at H
              rw [zs_table (x := x1) (off := 61) (t := 77) zd_125_16 (if_pos (by have e : ∀ z : Int32, ¬ x1 = z → ¬ (x1 : Int32).toInt = z.toInt := fun z h q => h (Int32.toInt_inj.mp q); have q0 := e 0 c2; have q1 := e 1 c3; have q2 := e 2 c4; have q3 := e 3 c5; have q4 := e 4 c6; simp only [show (0 : Int32).toInt = 0 from rfl, show (1 : Int32).toInt = 1 from rfl, show (2 : Int32).toInt = 2 from rfl, show (3 : Int32).toInt = 3 from rfl, show (4 : Int32).toInt = 4 from rfl] at q0 q1 q2 q3 q4; omega)) rfl]
              rw [zs_bipush (z := (-102)) zd_125_77 (by decide)]
              have H := Option.some.inj H
              subst H
              exact zs_ireturn zd_125_79 (by decide +kernel)
  · rw [if_neg c1] at H
    rw [zp_if_ne_f (x := (σ 82 21)) (t := 15) zd_125_9 rfl c1]
    rw [zs_bipush (z := (-101)) zd_125_12 (by decide)]
    have H := Option.some.inj H
    subst H
    exact zs_ireturn zd_125_14 (by decide +kernel)
set_option maxRecDepth 20000 in
theorem zt_X_step {a b L : Nat} {σ : zS} {τ : zT} {x1 : Int32} {x2 : Int32} {x3 : Int32} {r : Int32} (H : zf_X_step σ x1 x2 x3 = some r) : zx_go 1 126 0 [some (.ref 2), some (.int x1), some (.int x2), some (.int x3), none] [] ((119, a, b), zx_pk (zK L) 119, σ, τ, zR) = some (some (.int r), ((119, a, b), zx_pk (zK L) 119, σ, τ, zR)) := by
  unfold zf_X_step at H
  rw [zs_aload_n (ls := [some (.ref 2), some (.int x1), some (.int x2), some (.int x3), none]) zd_126_0 rfl]
  rw [zp_getZ (n := 119) (K := zx_pk (zK L) 119) (σ := σ) (c := 11) (k := 13) (q := 2) (v := (σ 2 13)) zd_126_1 rfl rfl rfl (by decide) rfl]
  by_cases c1 : ¬ (σ 2 13) = 0
  · rw [if_pos c1] at H
    rw [zp_if_ne_t (x := (σ 2 13)) (t := 10) zd_126_4 rfl c1]
    rw [zs_aload_n (ls := [some (.ref 2), some (.int x1), some (.int x2), some (.int x3), none]) zd_126_10 rfl]
    rw [zs_getR (n := 119) (K := zx_pk (zK L) 119) (ρ := zR) (c := 11) (k := 1) (q := 2) (p := 4) zd_126_11 rfl rfl rfl (by decide) rfl]
    rw [zs_iload_n (ls := [some (.ref 2), some (.int x1), some (.int x2), some (.int x3), none]) zd_126_14 rfl]
    rw [zs_iload_n (ls := [some (.ref 2), some (.int x1), some (.int x2), some (.int x3), none]) zd_126_15 rfl]
    obtain ⟨r2, hr2, H⟩ := Option.bind_eq_some_iff.mp H
    rw [zp_callVi (x := r2) (st := [.int x2, .int x1, .ref 4]) (as := [.ref 4, .int x1, .int x2]) (rest := []) (e := 0) zd_126_16 rfl (by decide +kernel) (by decide) rfl rfl (Nat.le_of_ble_eq_true rfl) (zx_rcb_ok rfl (show 4 < 119 by decide)) (Nat.le_of_ble_eq_true rfl) rfl (by decide) (zt_Program_slotOf hr2)]
    rw [zs_istore (x := r2) (ls' := [some (.ref 2), some (.int x1), some (.int x2), some (.int x3), some (.int r2)]) zd_126_19 (Nat.le_of_ble_eq_true rfl) rfl]
    rw [zs_iload (ls := [some (.ref 2), some (.int x1), some (.int x2), some (.int x3), some (.int r2)]) zd_126_21 rfl]
    rw [zs_bipush (z := 96) zd_126_23 (by decide)]
    by_cases c3 : ¬ r2 = 96
    · rw [if_pos c3] at H
      rw [zp_icmp_ne_t (x := r2) (y := 96) (t := 31) zd_126_25 rfl c3]
      rw [zs_iload_n (ls := [some (.ref 2), some (.int x1), some (.int x2), some (.int x3), some (.int r2)]) zd_126_31 rfl]
      by_cases c4 : x3 = 0
      · rw [if_pos c4] at H
        rw [zs_table (x := x3) (off := 40) (t := 72) zd_126_32 (by rw [c4]; decide) rfl]
        rw [zs_aload_n (ls := [some (.ref 2), some (.int x1), some (.int x2), some (.int x3), some (.int r2)]) zd_126_72 rfl]
        rw [zs_getR (n := 119) (K := zx_pk (zK L) 119) (ρ := zR) (c := 11) (k := 1) (q := 2) (p := 4) zd_126_73 rfl rfl rfl (by decide) rfl]
        rw [zs_getR (n := 119) (K := zx_pk (zK L) 119) (ρ := zR) (c := 6) (k := 9) (q := 4) (p := 7) zd_126_76 rfl rfl rfl (by decide) rfl]
        rw [zs_iload (ls := [some (.ref 2), some (.int x1), some (.int x2), some (.int x3), some (.int r2)]) zd_126_79 rfl]
        by_cases c15 : 0 ≤ r2 ∧ r2 < 97
        · rw [if_pos c15] at H
          rw [zp_iaload (n := 119) (K := zx_pk (zK L) 119) (σ := σ) (q := 7) (m := 97) (i := r2) (k := r2.toNatClampNeg) (v := (σ 7 r2.toNatClampNeg)) zd_126_81 rfl (by decide) (zJ_in c15 rfl) rfl rfl]
          have H := Option.some.inj H
          subst H
          exact zs_ireturn zd_126_82 rfl
        · rw [if_neg c15] at H
          cases H
      · rw [if_neg c4] at H
        by_cases c5 : x3 = 1
        · rw [if_pos c5] at H
          rw [zs_table (x := x3) (off := 51) (t := 83) zd_126_32 (by rw [c5]; decide) rfl]
          rw [zs_aload_n (ls := [some (.ref 2), some (.int x1), some (.int x2), some (.int x3), some (.int r2)]) zd_126_83 rfl]
          rw [zs_getR (n := 119) (K := zx_pk (zK L) 119) (ρ := zR) (c := 11) (k := 1) (q := 2) (p := 4) zd_126_84 rfl rfl rfl (by decide) rfl]
          rw [zs_getR (n := 119) (K := zx_pk (zK L) 119) (ρ := zR) (c := 6) (k := 10) (q := 4) (p := 8) zd_126_87 rfl rfl rfl (by decide) rfl]
          rw [zs_iload (ls := [some (.ref 2), some (.int x1), some (.int x2), some (.int x3), some (.int r2)]) zd_126_90 rfl]
          by_cases c14 : 0 ≤ r2 ∧ r2 < 97
          · rw [if_pos c14] at H
            rw [zp_iaload (n := 119) (K := zx_pk (zK L) 119) (σ := σ) (q := 8) (m := 97) (i := r2) (k := r2.toNatClampNeg) (v := (σ 8 r2.toNatClampNeg)) zd_126_92 rfl (by decide) (zJ_in c14 rfl) rfl rfl]
            have H := Option.some.inj H
            subst H
            exact zs_ireturn zd_126_93 rfl
          · rw [if_neg c14] at H
            cases H
        · rw [if_neg c5] at H
          by_cases c6 : x3 = 2
          · rw [if_pos c6] at H
            rw [zs_table (x := x3) (off := 62) (t := 94) zd_126_32 (by rw [c6]; decide) rfl]
            rw [zs_aload_n (ls := [some (.ref 2), some (.int x1), some (.int x2), some (.int x3), some (.int r2)]) zd_126_94 rfl]
            rw [zs_getR (n := 119) (K := zx_pk (zK L) 119) (ρ := zR) (c := 11) (k := 1) (q := 2) (p := 4) zd_126_95 rfl rfl rfl (by decide) rfl]
            rw [zs_getR (n := 119) (K := zx_pk (zK L) 119) (ρ := zR) (c := 6) (k := 11) (q := 4) (p := 9) zd_126_98 rfl rfl rfl (by decide) rfl]
            rw [zs_iload (ls := [some (.ref 2), some (.int x1), some (.int x2), some (.int x3), some (.int r2)]) zd_126_101 rfl]
            by_cases c13 : 0 ≤ r2 ∧ r2 < 97
            · rw [if_pos c13] at H
              rw [zp_iaload (n := 119) (K := zx_pk (zK L) 119) (σ := σ) (q := 9) (m := 97) (i := r2) (k := r2.toNatClampNeg) (v := (σ 9 r2.toNatClampNeg)) zd_126_103 rfl (by decide) (zJ_in c13 rfl) rfl rfl]
              have H := Option.some.inj H
              subst H
              exact zs_ireturn zd_126_104 rfl
            · rw [if_neg c13] at H
              cases H
          · rw [if_neg c6] at H
            by_cases c7 : x3 = 3
            · rw [if_pos c7] at H
              rw [zs_table (x := x3) (off := 73) (t := 105) zd_126_32 (by rw [c7]; decide) rfl]
              rw [zs_aload_n (ls := [some (.ref 2), some (.int x1), some (.int x2), some (.int x3), some (.int r2)]) zd_126_105 rfl]
              rw [zs_getR (n := 119) (K := zx_pk (zK L) 119) (ρ := zR) (c := 11) (k := 1) (q := 2) (p := 4) zd_126_106 rfl rfl rfl (by decide) rfl]
              rw [zs_getR (n := 119) (K := zx_pk (zK L) 119) (ρ := zR) (c := 6) (k := 12) (q := 4) (p := 10) zd_126_109 rfl rfl rfl (by decide) rfl]
              rw [zs_iload (ls := [some (.ref 2), some (.int x1), some (.int x2), some (.int x3), some (.int r2)]) zd_126_112 rfl]
              by_cases c12 : 0 ≤ r2 ∧ r2 < 97
              · rw [if_pos c12] at H
                rw [zp_iaload (n := 119) (K := zx_pk (zK L) 119) (σ := σ) (q := 10) (m := 97) (i := r2) (k := r2.toNatClampNeg) (v := (σ 10 r2.toNatClampNeg)) zd_126_114 rfl (by decide) (zJ_in c12 rfl) rfl rfl]
                have H := Option.some.inj H
                subst H
                exact zs_ireturn zd_126_115 rfl
              · rw [if_neg c12] at H
                cases H
            · rw [if_neg c7] at H
              by_cases c8 : x3 = 4
              · rw [if_pos c8] at H
                rw [zs_table (x := x3) (off := 84) (t := 116) zd_126_32 (by rw [c8]; decide) rfl]
                rw [zs_aload_n (ls := [some (.ref 2), some (.int x1), some (.int x2), some (.int x3), some (.int r2)]) zd_126_116 rfl]
                rw [zs_getR (n := 119) (K := zx_pk (zK L) 119) (ρ := zR) (c := 11) (k := 1) (q := 2) (p := 4) zd_126_117 rfl rfl rfl (by decide) rfl]
                rw [zs_getR (n := 119) (K := zx_pk (zK L) 119) (ρ := zR) (c := 6) (k := 13) (q := 4) (p := 11) zd_126_120 rfl rfl rfl (by decide) rfl]
                rw [zs_iload (ls := [some (.ref 2), some (.int x1), some (.int x2), some (.int x3), some (.int r2)]) zd_126_123 rfl]
                by_cases c11 : 0 ≤ r2 ∧ r2 < 97
                · rw [if_pos c11] at H
                  rw [zp_iaload (n := 119) (K := zx_pk (zK L) 119) (σ := σ) (q := 11) (m := 97) (i := r2) (k := r2.toNatClampNeg) (v := (σ 11 r2.toNatClampNeg)) zd_126_125 rfl (by decide) (zJ_in c11 rfl) rfl rfl]
                  have H := Option.some.inj H
                  subst H
                  exact zs_ireturn zd_126_126 rfl
                · rw [if_neg c11] at H
                  cases H
              · rw [if_neg c8] at H
                by_cases c9 : x3 = 5
                · rw [if_pos c9] at H
                  rw [zs_table (x := x3) (off := 95) (t := 127) zd_126_32 (by rw [c9]; decide) rfl]
                  rw [zs_aload_n (ls := [some (.ref 2), some (.int x1), some (.int x2), some (.int x3), some (.int r2)]) zd_126_127 rfl]
                  rw [zs_getR (n := 119) (K := zx_pk (zK L) 119) (ρ := zR) (c := 11) (k := 1) (q := 2) (p := 4) zd_126_128 rfl rfl rfl (by decide) rfl]
                  rw [zs_getR (n := 119) (K := zx_pk (zK L) 119) (ρ := zR) (c := 6) (k := 14) (q := 4) (p := 12) zd_126_131 rfl rfl rfl (by decide) rfl]
                  rw [zs_iload (ls := [some (.ref 2), some (.int x1), some (.int x2), some (.int x3), some (.int r2)]) zd_126_134 rfl]
                  by_cases c10 : 0 ≤ r2 ∧ r2 < 97
                  · rw [if_pos c10] at H
                    rw [zp_iaload (n := 119) (K := zx_pk (zK L) 119) (σ := σ) (q := 12) (m := 97) (i := r2) (k := r2.toNatClampNeg) (v := (σ 12 r2.toNatClampNeg)) zd_126_136 rfl (by decide) (zJ_in c10 rfl) rfl rfl]
                    have H := Option.some.inj H
                    subst H
                    exact zs_ireturn zd_126_137 rfl
                  · rw [if_neg c10] at H
                    cases H
                · rw [if_neg c9] at H
                  rw [zs_table (x := x3) (off := 106) (t := 138) zd_126_32 (if_pos (by have e : ∀ z : Int32, ¬ x3 = z → ¬ (x3 : Int32).toInt = z.toInt := fun z h q => h (Int32.toInt_inj.mp q); have q0 := e 0 c4; have q1 := e 1 c5; have q2 := e 2 c6; have q3 := e 3 c7; have q4 := e 4 c8; have q5 := e 5 c9; simp only [show (0 : Int32).toInt = 0 from rfl, show (1 : Int32).toInt = 1 from rfl, show (2 : Int32).toInt = 2 from rfl, show (3 : Int32).toInt = 3 from rfl, show (4 : Int32).toInt = 4 from rfl, show (5 : Int32).toInt = 5 from rfl] at q0 q1 q2 q3 q4 q5; omega)) rfl]
                  rw [zs_bipush (z := (-102)) zd_126_138 (by decide)]
                  have H := Option.some.inj H
                  subst H
                  exact zs_ireturn zd_126_140 (by decide +kernel)
    · rw [if_neg c3] at H
      rw [zp_icmp_ne_f (x := r2) (y := 96) (t := 31) zd_126_25 rfl c3]
      rw [zs_bipush (z := (-102)) zd_126_28 (by decide)]
      have H := Option.some.inj H
      subst H
      exact zs_ireturn zd_126_30 (by decide +kernel)
  · rw [if_neg c1] at H
    rw [zp_if_ne_f (x := (σ 2 13)) (t := 10) zd_126_4 rfl c1]
    rw [zs_bipush (z := (-101)) zd_126_7 (by decide)]
    have H := Option.some.inj H
    subst H
    exact zs_ireturn zd_126_9 (by decide +kernel)
set_option maxRecDepth 20000 in
theorem zt_M_isStep {a b L : Nat} {σ : zS} {τ : zT} {x1 : Int32} {x2 : Int32} {r : Int32} (H : zf_M_isStep σ x1 x2 = some r) : zx_go 1 128 0 [some (.ref 82), some (.int x1), some (.int x2)] [] ((119, a, b), zx_pk (zK L) 119, σ, τ, zR) = some (some (.int r), ((119, a, b), zx_pk (zK L) 119, σ, τ, zR)) := by
  unfold zf_M_isStep at H
  rw [zs_iload_n (ls := [some (.ref 82), some (.int x1), some (.int x2)]) zd_128_0 rfl]
  rw [zs_iconst (z := 0) zd_128_1 (by decide)]
  rw [zs_aload_n (ls := [some (.ref 82), some (.int x1), some (.int x2)]) zd_128_2 rfl]
  rw [zp_getI (n := 119) (K := zx_pk (zK L) 119) (σ := σ) (c := 12) (k := 17) (q := 82) (v := (σ 82 17)) zd_128_3 rfl rfl rfl (by decide) rfl]
  rw [zs_iconst (z := 1) zd_128_6 (by decide)]
  rw [zp_isub (x := (σ 82 17)) (y := 1) (z := ((σ 82 17) - 1)) zd_128_7 rfl]
  obtain ⟨r1, hr1, H⟩ := Option.bind_eq_some_iff.mp H
  rw [zp_callSi (x := r1) (st := [.int ((σ 82 17) - 1), .int 0, .int x1]) (as := [.int x1, .int 0, .int ((σ 82 17) - 1)]) (rest := []) (e := 0) zd_128_8 rfl (by decide +kernel) (by decide) rfl rfl (Nat.le_of_ble_eq_true rfl) rfl (Nat.le_of_ble_eq_true rfl) rfl (by decide) (zt_M_in hr1)]
  by_cases c2 : r1 = 0
  · rw [if_pos c2] at H
    rw [zp_if_eq_t (x := r1) (t := 34) zd_128_11 rfl c2]
    rw [zs_iconst (z := 0) zd_128_34 (by decide)]
    have H := Option.some.inj H
    subst H
    exact zs_ireturn zd_128_35 (by decide +kernel)
  · rw [if_neg c2] at H
    rw [zp_if_eq_f (x := r1) (t := 34) zd_128_11 rfl c2]
    rw [zs_iload_n (ls := [some (.ref 82), some (.int x1), some (.int x2)]) zd_128_14 rfl]
    rw [zs_iconst (z := 0) zd_128_15 (by decide)]
    rw [zs_aload_n (ls := [some (.ref 82), some (.int x1), some (.int x2)]) zd_128_16 rfl]
    rw [zs_getR (n := 119) (K := zx_pk (zK L) 119) (ρ := zR) (c := 12) (k := 24) (q := 82) (p := 90) zd_128_17 rfl rfl rfl (by decide) rfl]
    rw [zs_iload_n (ls := [some (.ref 82), some (.int x1), some (.int x2)]) zd_128_20 rfl]
    by_cases c3 : 0 ≤ x1 ∧ x1 < 4
    · rw [if_pos c3] at H
      rw [zp_iaload (n := 119) (K := zx_pk (zK L) 119) (σ := σ) (q := 90) (m := 4) (i := x1) (k := x1.toNatClampNeg) (v := (σ 90 x1.toNatClampNeg)) zd_128_21 rfl (by decide) (zJ_in c3 rfl) rfl rfl]
      rw [zs_iconst (z := 1) zd_128_22 (by decide)]
      rw [zp_isub (x := (σ 90 x1.toNatClampNeg)) (y := 1) (z := ((σ 90 x1.toNatClampNeg) - 1)) zd_128_23 rfl]
      obtain ⟨r4, hr4, H⟩ := Option.bind_eq_some_iff.mp H
      rw [zp_callSi (x := r4) (st := [.int ((σ 90 x1.toNatClampNeg) - 1), .int 0, .int x2]) (as := [.int x2, .int 0, .int ((σ 90 x1.toNatClampNeg) - 1)]) (rest := []) (e := 0) zd_128_24 rfl (by decide +kernel) (by decide) rfl rfl (Nat.le_of_ble_eq_true rfl) rfl (Nat.le_of_ble_eq_true rfl) rfl (by decide) (zt_M_in hr4)]
      by_cases c5 : r4 = 0
      · rw [if_pos c5] at H
        rw [zp_if_eq_t (x := r4) (t := 34) zd_128_27 rfl c5]
        rw [zs_iconst (z := 0) zd_128_34 (by decide)]
        have H := Option.some.inj H
        subst H
        exact zs_ireturn zd_128_35 (by decide +kernel)
      · rw [if_neg c5] at H
        rw [zp_if_eq_f (x := r4) (t := 34) zd_128_27 rfl c5]
        rw [zs_iconst (z := 1) zd_128_30 (by decide)]
        rw [zs_goto (t := 35) zd_128_31 rfl]
        have H := Option.some.inj H
        subst H
        exact zs_ireturn zd_128_35 (by decide +kernel)
    · rw [if_neg c3] at H
      cases H
set_option maxRecDepth 20000 in
theorem zt_M_step_192 {a b L : Nat} {σ : zS} {τ : zT} {v4 : Int32} {o1 : Option Value} {o2 : Option Value} {o3 : Option Value} {o5 : Option Value} {r : Int32 × zS} (H : zb_M_step_192 σ v4 = some r) : zx_go 2 127 192 [some (.ref 82), o1, o2, o3, some (.int v4), o5] [] ((119, a, b), zx_pk (zK L) 119, σ, τ, zR) = some (some (.int r.1), ((119, a, b), zx_pk (zK L) 119, r.2, τ, zR)) := by
  unfold zb_M_step_192 at H
  rw [zs_aload_n (ls := [some (.ref 82), o1, o2, o3, some (.int v4), o5]) zd_127_192 rfl]
  rw [zs_getR (n := 119) (K := zx_pk (zK L) 119) (ρ := zR) (c := 12) (k := 30) (q := 82) (p := 95) zd_127_193 rfl rfl rfl (by decide) rfl]
  rw [zs_iload (ls := [some (.ref 82), o1, o2, o3, some (.int v4), o5]) zd_127_196 rfl]
  by_cases c16 : 0 ≤ v4 ∧ v4 < 96
  · rw [if_pos c16] at H
    rw [zp_iaload (n := 119) (K := zx_pk (zK L) 119) (σ := σ) (q := 95) (m := 96) (i := v4) (k := v4.toNatClampNeg) (v := (σ 95 v4.toNatClampNeg)) zd_127_198 rfl (by decide) (zJ_in c16 rfl) rfl rfl]
    rw [zs_goto (t := 203) zd_127_199 rfl]
    have H := Option.some.inj H
    subst H
    exact zs_ireturn zd_127_203 rfl
  · rw [if_neg c16] at H
    cases H
set_option maxRecDepth 20000 in
theorem zt_M_step_93 {a b L : Nat} {σ : zS} {τ : zT} {v3 : Int32} {v4 : Int32} {s0 : Int32} {o1 : Option Value} {o2 : Option Value} {o5 : Option Value} {r : Int32 × zS} (H : zb_M_step_93 σ v3 v4 s0 = some r) : zx_go 2 127 93 [some (.ref 82), o1, o2, some (.int v3), some (.int v4), o5] [.int s0] ((119, a, b), zx_pk (zK L) 119, σ, τ, zR) = some (some (.int r.1), ((119, a, b), zx_pk (zK L) 119, r.2, τ, zR)) := by
  unfold zb_M_step_93 at H
  rw [zs_istore (x := s0) (ls' := [some (.ref 82), o1, o2, some (.int v3), some (.int v4), some (.int s0)]) zd_127_93 (Nat.le_of_ble_eq_true rfl) rfl]
  rw [zs_iload_n (ls := [some (.ref 82), o1, o2, some (.int v3), some (.int v4), some (.int s0)]) zd_127_95 rfl]
  by_cases c6 : v3 = 0
  · rw [if_pos c6] at H
    rw [zs_table (x := v3) (off := 40) (t := 136) zd_127_96 (by rw [c6]; decide) rfl]
    rw [zs_aload_n (ls := [some (.ref 82), o1, o2, some (.int v3), some (.int v4), some (.int s0)]) zd_127_136 rfl]
    rw [zs_getR (n := 119) (K := zx_pk (zK L) 119) (ρ := zR) (c := 12) (k := 27) (q := 82) (p := 92) zd_127_137 rfl rfl rfl (by decide) rfl]
    rw [zs_iload (ls := [some (.ref 82), o1, o2, some (.int v3), some (.int v4), some (.int s0)]) zd_127_140 rfl]
    by_cases c22 : 0 ≤ v4 ∧ v4 < 96
    · rw [if_pos c22] at H
      rw [zp_iaload (n := 119) (K := zx_pk (zK L) 119) (σ := σ) (q := 92) (m := 96) (i := v4) (k := v4.toNatClampNeg) (v := (σ 92 v4.toNatClampNeg)) zd_127_142 rfl (by decide) (zJ_in c22 rfl) rfl rfl]
      have H := Option.some.inj H
      subst H
      exact zs_ireturn zd_127_143 rfl
    · rw [if_neg c22] at H
      cases H
  · rw [if_neg c6] at H
    by_cases c7 : v3 = 1
    · rw [if_pos c7] at H
      rw [zs_table (x := v3) (off := 48) (t := 144) zd_127_96 (by rw [c7]; decide) rfl]
      rw [zs_iload (ls := [some (.ref 82), o1, o2, some (.int v3), some (.int v4), some (.int s0)]) zd_127_144 rfl]
      by_cases c20 : s0 = 0
      · rw [if_pos c20] at H
        rw [zp_if_eq_t (x := s0) (t := 159) zd_127_146 rfl c20]
        rw [zs_iconst (z := (-1)) zd_127_159 (by decide)]
        have H := Option.some.inj H
        subst H
        exact zs_ireturn zd_127_160 (by decide +kernel)
      · rw [if_neg c20] at H
        rw [zp_if_eq_f (x := s0) (t := 159) zd_127_146 rfl c20]
        rw [zs_aload_n (ls := [some (.ref 82), o1, o2, some (.int v3), some (.int v4), some (.int s0)]) zd_127_149 rfl]
        rw [zs_getR (n := 119) (K := zx_pk (zK L) 119) (ρ := zR) (c := 12) (k := 28) (q := 82) (p := 93) zd_127_150 rfl rfl rfl (by decide) rfl]
        rw [zs_iload (ls := [some (.ref 82), o1, o2, some (.int v3), some (.int v4), some (.int s0)]) zd_127_153 rfl]
        by_cases c21 : 0 ≤ v4 ∧ v4 < 96
        · rw [if_pos c21] at H
          rw [zp_iaload (n := 119) (K := zx_pk (zK L) 119) (σ := σ) (q := 93) (m := 96) (i := v4) (k := v4.toNatClampNeg) (v := (σ 93 v4.toNatClampNeg)) zd_127_155 rfl (by decide) (zJ_in c21 rfl) rfl rfl]
          rw [zs_goto (t := 160) zd_127_156 rfl]
          have H := Option.some.inj H
          subst H
          exact zs_ireturn zd_127_160 rfl
        · rw [if_neg c21] at H
          cases H
    · rw [if_neg c7] at H
      by_cases c8 : v3 = 2
      · rw [if_pos c8] at H
        rw [zs_table (x := v3) (off := 65) (t := 161) zd_127_96 (by rw [c8]; decide) rfl]
        rw [zs_aload_n (ls := [some (.ref 82), o1, o2, some (.int v3), some (.int v4), some (.int s0)]) zd_127_161 rfl]
        rw [zs_getR (n := 119) (K := zx_pk (zK L) 119) (ρ := zR) (c := 12) (k := 29) (q := 82) (p := 94) zd_127_162 rfl rfl rfl (by decide) rfl]
        rw [zs_iload (ls := [some (.ref 82), o1, o2, some (.int v3), some (.int v4), some (.int s0)]) zd_127_165 rfl]
        by_cases c19 : 0 ≤ v4 ∧ v4 < 96
        · rw [if_pos c19] at H
          rw [zp_iaload (n := 119) (K := zx_pk (zK L) 119) (σ := σ) (q := 94) (m := 96) (i := v4) (k := v4.toNatClampNeg) (v := (σ 94 v4.toNatClampNeg)) zd_127_167 rfl (by decide) (zJ_in c19 rfl) rfl rfl]
          have H := Option.some.inj H
          subst H
          exact zs_ireturn zd_127_168 rfl
        · rw [if_neg c19] at H
          cases H
      · rw [if_neg c8] at H
        by_cases c9 : v3 = 3
        · rw [if_pos c9] at H
          rw [zs_table (x := v3) (off := 73) (t := 169) zd_127_96 (by rw [c9]; decide) rfl]
          rw [zs_aload_n (ls := [some (.ref 82), o1, o2, some (.int v3), some (.int v4), some (.int s0)]) zd_127_169 rfl]
          rw [zs_getR (n := 119) (K := zx_pk (zK L) 119) (ρ := zR) (c := 12) (k := 27) (q := 82) (p := 92) zd_127_170 rfl rfl rfl (by decide) rfl]
          rw [zs_iload (ls := [some (.ref 82), o1, o2, some (.int v3), some (.int v4), some (.int s0)]) zd_127_173 rfl]
          by_cases c14 : 0 ≤ v4 ∧ v4 < 96
          · rw [if_pos c14] at H
            rw [zp_iaload (n := 119) (K := zx_pk (zK L) 119) (σ := σ) (q := 92) (m := 96) (i := v4) (k := v4.toNatClampNeg) (v := (σ 92 v4.toNatClampNeg)) zd_127_175 rfl (by decide) (zJ_in c14 rfl) rfl rfl]
            rw [zs_iconst (z := 5) zd_127_176 (by decide)]
            by_cases c15 : (σ 92 v4.toNatClampNeg) = 5
            · rw [if_pos c15] at H
              rw [zp_icmp_eq_t (x := (σ 92 v4.toNatClampNeg)) (y := 5) (t := 192) zd_127_177 rfl c15]
              exact zt_M_step_192  H
            · rw [if_neg c15] at H
              rw [zp_icmp_eq_f (x := (σ 92 v4.toNatClampNeg)) (y := 5) (t := 192) zd_127_177 rfl c15]
              rw [zs_aload_n (ls := [some (.ref 82), o1, o2, some (.int v3), some (.int v4), some (.int s0)]) zd_127_180 rfl]
              rw [zs_getR (n := 119) (K := zx_pk (zK L) 119) (ρ := zR) (c := 12) (k := 27) (q := 82) (p := 92) zd_127_181 rfl rfl rfl (by decide) rfl]
              rw [zs_iload (ls := [some (.ref 82), o1, o2, some (.int v3), some (.int v4), some (.int s0)]) zd_127_184 rfl]
              by_cases c17 : 0 ≤ v4 ∧ v4 < 96
              · rw [if_pos c17] at H
                rw [zp_iaload (n := 119) (K := zx_pk (zK L) 119) (σ := σ) (q := 92) (m := 96) (i := v4) (k := v4.toNatClampNeg) (v := (σ 92 v4.toNatClampNeg)) zd_127_186 rfl (by decide) (zJ_in c17 rfl) rfl rfl]
                rw [zs_bipush (z := 6) zd_127_187 (by decide)]
                by_cases c18 : ¬ (σ 92 v4.toNatClampNeg) = 6
                · rw [if_pos c18] at H
                  rw [zp_icmp_ne_t (x := (σ 92 v4.toNatClampNeg)) (y := 6) (t := 202) zd_127_189 rfl c18]
                  rw [zs_iconst (z := (-1)) zd_127_202 (by decide)]
                  have H := Option.some.inj H
                  subst H
                  exact zs_ireturn zd_127_203 (by decide +kernel)
                · rw [if_neg c18] at H
                  rw [zp_icmp_ne_f (x := (σ 92 v4.toNatClampNeg)) (y := 6) (t := 202) zd_127_189 rfl c18]
                  exact zt_M_step_192  H
              · rw [if_neg c17] at H
                cases H
          · rw [if_neg c14] at H
            cases H
        · rw [if_neg c9] at H
          by_cases c10 : v3 = 4
          · rw [if_pos c10] at H
            rw [zs_table (x := v3) (off := 108) (t := 204) zd_127_96 (by rw [c10]; decide) rfl]
            rw [zs_aload_n (ls := [some (.ref 82), o1, o2, some (.int v3), some (.int v4), some (.int s0)]) zd_127_204 rfl]
            rw [zs_getR (n := 119) (K := zx_pk (zK L) 119) (ρ := zR) (c := 12) (k := 31) (q := 82) (p := 96) zd_127_205 rfl rfl rfl (by decide) rfl]
            rw [zs_iload (ls := [some (.ref 82), o1, o2, some (.int v3), some (.int v4), some (.int s0)]) zd_127_208 rfl]
            by_cases c13 : 0 ≤ v4 ∧ v4 < 96
            · rw [if_pos c13] at H
              rw [zp_iaload (n := 119) (K := zx_pk (zK L) 119) (σ := σ) (q := 96) (m := 96) (i := v4) (k := v4.toNatClampNeg) (v := (σ 96 v4.toNatClampNeg)) zd_127_210 rfl (by decide) (zJ_in c13 rfl) rfl rfl]
              have H := Option.some.inj H
              subst H
              exact zs_ireturn zd_127_211 rfl
            · rw [if_neg c13] at H
              cases H
          · rw [if_neg c10] at H
            by_cases c11 : v3 = 5
            · rw [if_pos c11] at H
              rw [zs_table (x := v3) (off := 116) (t := 212) zd_127_96 (by rw [c11]; decide) rfl]
              rw [zs_aload_n (ls := [some (.ref 82), o1, o2, some (.int v3), some (.int v4), some (.int s0)]) zd_127_212 rfl]
              rw [zs_getR (n := 119) (K := zx_pk (zK L) 119) (ρ := zR) (c := 12) (k := 32) (q := 82) (p := 97) zd_127_213 rfl rfl rfl (by decide) rfl]
              rw [zs_iload (ls := [some (.ref 82), o1, o2, some (.int v3), some (.int v4), some (.int s0)]) zd_127_216 rfl]
              by_cases c12 : 0 ≤ v4 ∧ v4 < 96
              · rw [if_pos c12] at H
                rw [zp_iaload (n := 119) (K := zx_pk (zK L) 119) (σ := σ) (q := 97) (m := 96) (i := v4) (k := v4.toNatClampNeg) (v := (σ 97 v4.toNatClampNeg)) zd_127_218 rfl (by decide) (zJ_in c12 rfl) rfl rfl]
                have H := Option.some.inj H
                subst H
                exact zs_ireturn zd_127_219 rfl
              · rw [if_neg c12] at H
                cases H
            · rw [if_neg c11] at H
              rw [zs_table (x := v3) (off := 124) (t := 220) zd_127_96 (if_pos (by have e : ∀ z : Int32, ¬ v3 = z → ¬ (v3 : Int32).toInt = z.toInt := fun z h q => h (Int32.toInt_inj.mp q); have q0 := e 0 c6; have q1 := e 1 c7; have q2 := e 2 c8; have q3 := e 3 c9; have q4 := e 4 c10; have q5 := e 5 c11; simp only [show (0 : Int32).toInt = 0 from rfl, show (1 : Int32).toInt = 1 from rfl, show (2 : Int32).toInt = 2 from rfl, show (3 : Int32).toInt = 3 from rfl, show (4 : Int32).toInt = 4 from rfl, show (5 : Int32).toInt = 5 from rfl] at q0 q1 q2 q3 q4 q5; omega)) rfl]
              rw [zs_bipush (z := (-102)) zd_127_220 (by decide)]
              have H := Option.some.inj H
              subst H
              exact zs_ireturn zd_127_222 (by decide +kernel)
set_option maxRecDepth 20000 in
theorem zt_M_step_88 {a b L : Nat} {σ : zS} {τ : zT} {v3 : Int32} {v4 : Int32} {o1 : Option Value} {o2 : Option Value} {o5 : Option Value} {r : Int32 × zS} (H : zb_M_step_88 σ v3 v4 = some r) : zx_go 2 127 88 [some (.ref 82), o1, o2, some (.int v3), some (.int v4), o5] [] ((119, a, b), zx_pk (zK L) 119, σ, τ, zR) = some (some (.int r.1), ((119, a, b), zx_pk (zK L) 119, r.2, τ, zR)) := by
  unfold zb_M_step_88 at H
  rw [zs_iconst (z := 1) zd_127_88 (by decide)]
  rw [zs_goto (t := 93) zd_127_89 rfl]
  exact zt_M_step_93  H
set_option maxRecDepth 20000 in
theorem zt_M_step {a b L : Nat} {σ : zS} {τ : zT} {x1 : Int32} {x2 : Int32} {x3 : Int32} {r : Int32 × zS} (H : zf_M_step σ x1 x2 x3 = some r) : zx_go 2 127 0 [some (.ref 82), some (.int x1), some (.int x2), some (.int x3), none, none] [] ((119, a, b), zx_pk (zK L) 119, σ, τ, zR) = some (some (.int r.1), ((119, a, b), zx_pk (zK L) 119, r.2, τ, zR)) := by
  unfold zf_M_step at H
  rw [zs_aload_n (ls := [some (.ref 82), some (.int x1), some (.int x2), some (.int x3), none, none]) zd_127_0 rfl]
  rw [zs_iconst (z := 0) zd_127_1 (by decide)]
  rw [zs_putI (n := 119) (K := zx_pk (zK L) 119) (c := 12) (k := 0) (q := 82) (x := 0) zd_127_2 rfl rfl (by decide +kernel) rfl (by decide)]
  rw [zs_aload_n (ls := [some (.ref 82), some (.int x1), some (.int x2), some (.int x3), none, none]) zd_127_5 rfl]
  rw [zp_getZ (n := 119) (K := zx_pk (zK L) 119) (σ := (zx_up σ 82 0 0)) (c := 12) (k := 21) (q := 82) (v := (σ 82 21)) zd_127_6 rfl rfl rfl (by decide) (show ((zx_up σ 82 0 0) : zS) 82 21 = (σ 82 21) from ((zx_up_nj (by decide)).trans rfl))]
  by_cases c1 : ¬ (σ 82 21) = 0
  · rw [if_pos c1] at H
    rw [zp_if_ne_t (x := (σ 82 21)) (t := 15) zd_127_9 rfl c1]
    rw [zs_aload_n (ls := [some (.ref 82), some (.int x1), some (.int x2), some (.int x3), none, none]) zd_127_15 rfl]
    rw [zs_iload_n (ls := [some (.ref 82), some (.int x1), some (.int x2), some (.int x3), none, none]) zd_127_16 rfl]
    rw [zs_iload_n (ls := [some (.ref 82), some (.int x1), some (.int x2), some (.int x3), none, none]) zd_127_17 rfl]
    obtain ⟨r2, hr2, H⟩ := Option.bind_eq_some_iff.mp H
    rw [zp_callVi (x := r2) (st := [.int x2, .int x1, .ref 82]) (as := [.ref 82, .int x1, .int x2]) (rest := []) (e := 1) zd_127_18 rfl (by decide +kernel) (by decide) rfl rfl (Nat.le_of_ble_eq_true rfl) (zx_rcb_ok rfl (show 82 < 119 by decide)) (Nat.le_of_ble_eq_true rfl) rfl (by decide) (zt_M_isStep hr2)]
    by_cases c3 : ¬ r2 = 0
    · rw [if_pos c3] at H
      rw [zp_if_ne_t (x := r2) (t := 27) zd_127_21 rfl c3]
      rw [zs_bipush (z := 24) zd_127_27 (by decide)]
      rw [zs_iload_n (ls := [some (.ref 82), some (.int x1), some (.int x2), some (.int x3), none, none]) zd_127_29 rfl]
      rw [zp_imul (x := 24) (y := x1) (z := (24 * x1)) zd_127_30 rfl]
      rw [zs_iload_n (ls := [some (.ref 82), some (.int x1), some (.int x2), some (.int x3), none, none]) zd_127_31 rfl]
      rw [zp_iadd (x := (24 * x1)) (y := x2) (z := ((24 * x1) + x2)) zd_127_32 rfl]
      rw [zs_istore (x := ((24 * x1) + x2)) (ls' := [some (.ref 82), some (.int x1), some (.int x2), some (.int x3), some (.int ((24 * x1) + x2)), none]) zd_127_33 (Nat.le_of_ble_eq_true rfl) rfl]
      rw [zs_aload_n (ls := [some (.ref 82), some (.int x1), some (.int x2), some (.int x3), some (.int ((24 * x1) + x2)), none]) zd_127_35 rfl]
      rw [zs_getR (n := 119) (K := zx_pk (zK L) 119) (ρ := zR) (c := 12) (k := 27) (q := 82) (p := 92) zd_127_36 rfl rfl rfl (by decide) rfl]
      rw [zs_iload (ls := [some (.ref 82), some (.int x1), some (.int x2), some (.int x3), some (.int ((24 * x1) + x2)), none]) zd_127_39 rfl]
      by_cases c4 : 0 ≤ ((24 * x1) + x2) ∧ ((24 * x1) + x2) < 96
      · rw [if_pos c4] at H
        rw [zp_iaload (n := 119) (K := zx_pk (zK L) 119) (σ := (zx_up σ 82 0 0)) (q := 92) (m := 96) (i := ((24 * x1) + x2)) (k := ((24 * x1) + x2).toNatClampNeg) (v := (σ 92 ((24 * x1) + x2).toNatClampNeg)) zd_127_41 rfl (by decide) (zJ_in c4 rfl) rfl (show ((zx_up σ 82 0 0) : zS) 92 ((24 * x1) + x2).toNatClampNeg = (σ 92 ((24 * x1) + x2).toNatClampNeg) from ((zx_up_ne (by decide)).trans rfl))]
        by_cases c5 : (σ 92 ((24 * x1) + x2).toNatClampNeg) = 0
        · rw [if_pos c5] at H
          rw [zp_if_eq_t (x := (σ 92 ((24 * x1) + x2).toNatClampNeg)) (t := 88) zd_127_42 rfl c5]
          exact zt_M_step_88  H
        · rw [if_neg c5] at H
          rw [zp_if_eq_f (x := (σ 92 ((24 * x1) + x2).toNatClampNeg)) (t := 88) zd_127_42 rfl c5]
          rw [zs_aload_n (ls := [some (.ref 82), some (.int x1), some (.int x2), some (.int x3), some (.int ((24 * x1) + x2)), none]) zd_127_45 rfl]
          rw [zs_getR (n := 119) (K := zx_pk (zK L) 119) (ρ := zR) (c := 12) (k := 27) (q := 82) (p := 92) zd_127_46 rfl rfl rfl (by decide) rfl]
          rw [zs_iload (ls := [some (.ref 82), some (.int x1), some (.int x2), some (.int x3), some (.int ((24 * x1) + x2)), none]) zd_127_49 rfl]
          by_cases c23 : 0 ≤ ((24 * x1) + x2) ∧ ((24 * x1) + x2) < 96
          · rw [if_pos c23] at H
            rw [zp_iaload (n := 119) (K := zx_pk (zK L) 119) (σ := (zx_up σ 82 0 0)) (q := 92) (m := 96) (i := ((24 * x1) + x2)) (k := ((24 * x1) + x2).toNatClampNeg) (v := (σ 92 ((24 * x1) + x2).toNatClampNeg)) zd_127_51 rfl (by decide) (zJ_in c23 rfl) rfl (show ((zx_up σ 82 0 0) : zS) 92 ((24 * x1) + x2).toNatClampNeg = (σ 92 ((24 * x1) + x2).toNatClampNeg) from ((zx_up_ne (by decide)).trans rfl))]
            rw [zs_iconst (z := 1) zd_127_52 (by decide)]
            by_cases c24 : (σ 92 ((24 * x1) + x2).toNatClampNeg) = 1
            · rw [if_pos c24] at H
              rw [zp_icmp_eq_t (x := (σ 92 ((24 * x1) + x2).toNatClampNeg)) (y := 1) (t := 88) zd_127_53 rfl c24]
              exact zt_M_step_88  H
            · rw [if_neg c24] at H
              rw [zp_icmp_eq_f (x := (σ 92 ((24 * x1) + x2).toNatClampNeg)) (y := 1) (t := 88) zd_127_53 rfl c24]
              rw [zs_aload_n (ls := [some (.ref 82), some (.int x1), some (.int x2), some (.int x3), some (.int ((24 * x1) + x2)), none]) zd_127_56 rfl]
              rw [zs_getR (n := 119) (K := zx_pk (zK L) 119) (ρ := zR) (c := 12) (k := 27) (q := 82) (p := 92) zd_127_57 rfl rfl rfl (by decide) rfl]
              rw [zs_iload (ls := [some (.ref 82), some (.int x1), some (.int x2), some (.int x3), some (.int ((24 * x1) + x2)), none]) zd_127_60 rfl]
              by_cases c25 : 0 ≤ ((24 * x1) + x2) ∧ ((24 * x1) + x2) < 96
              · rw [if_pos c25] at H
                rw [zp_iaload (n := 119) (K := zx_pk (zK L) 119) (σ := (zx_up σ 82 0 0)) (q := 92) (m := 96) (i := ((24 * x1) + x2)) (k := ((24 * x1) + x2).toNatClampNeg) (v := (σ 92 ((24 * x1) + x2).toNatClampNeg)) zd_127_62 rfl (by decide) (zJ_in c25 rfl) rfl (show ((zx_up σ 82 0 0) : zS) 92 ((24 * x1) + x2).toNatClampNeg = (σ 92 ((24 * x1) + x2).toNatClampNeg) from ((zx_up_ne (by decide)).trans rfl))]
                rw [zs_iconst (z := 3) zd_127_63 (by decide)]
                rw [zs_iconst (z := 4) zd_127_64 (by decide)]
                obtain ⟨r26, hr26, H⟩ := Option.bind_eq_some_iff.mp H
                rw [zp_callSi (x := r26) (st := [.int 4, .int 3, .int (σ 92 ((24 * x1) + x2).toNatClampNeg)]) (as := [.int (σ 92 ((24 * x1) + x2).toNatClampNeg), .int 3, .int 4]) (rest := []) (e := 0) zd_127_65 rfl (by decide +kernel) (by decide) rfl rfl (Nat.le_of_ble_eq_true rfl) rfl (Nat.le_of_ble_eq_true rfl) rfl (by decide) (zt_M_in hr26)]
                by_cases c27 : ¬ r26 = 0
                · rw [if_pos c27] at H
                  rw [zp_if_ne_t (x := r26) (t := 88) zd_127_68 rfl c27]
                  exact zt_M_step_88  H
                · rw [if_neg c27] at H
                  rw [zp_if_ne_f (x := r26) (t := 88) zd_127_68 rfl c27]
                  rw [zs_aload_n (ls := [some (.ref 82), some (.int x1), some (.int x2), some (.int x3), some (.int ((24 * x1) + x2)), none]) zd_127_71 rfl]
                  rw [zs_getR (n := 119) (K := zx_pk (zK L) 119) (ρ := zR) (c := 12) (k := 27) (q := 82) (p := 92) zd_127_72 rfl rfl rfl (by decide) rfl]
                  rw [zs_iload (ls := [some (.ref 82), some (.int x1), some (.int x2), some (.int x3), some (.int ((24 * x1) + x2)), none]) zd_127_75 rfl]
                  by_cases c28 : 0 ≤ ((24 * x1) + x2) ∧ ((24 * x1) + x2) < 96
                  · rw [if_pos c28] at H
                    rw [zp_iaload (n := 119) (K := zx_pk (zK L) 119) (σ := (zx_up σ 82 0 0)) (q := 92) (m := 96) (i := ((24 * x1) + x2)) (k := ((24 * x1) + x2).toNatClampNeg) (v := (σ 92 ((24 * x1) + x2).toNatClampNeg)) zd_127_77 rfl (by decide) (zJ_in c28 rfl) rfl (show ((zx_up σ 82 0 0) : zS) 92 ((24 * x1) + x2).toNatClampNeg = (σ 92 ((24 * x1) + x2).toNatClampNeg) from ((zx_up_ne (by decide)).trans rfl))]
                    rw [zs_bipush (z := 7) zd_127_78 (by decide)]
                    rw [zs_bipush (z := 11) zd_127_80 (by decide)]
                    obtain ⟨r29, hr29, H⟩ := Option.bind_eq_some_iff.mp H
                    rw [zp_callSi (x := r29) (st := [.int 11, .int 7, .int (σ 92 ((24 * x1) + x2).toNatClampNeg)]) (as := [.int (σ 92 ((24 * x1) + x2).toNatClampNeg), .int 7, .int 11]) (rest := []) (e := 0) zd_127_82 rfl (by decide +kernel) (by decide) rfl rfl (Nat.le_of_ble_eq_true rfl) rfl (Nat.le_of_ble_eq_true rfl) rfl (by decide) (zt_M_in hr29)]
                    by_cases c30 : r29 = 0
                    · rw [if_pos c30] at H
                      rw [zp_if_eq_t (x := r29) (t := 92) zd_127_85 rfl c30]
                      rw [zs_iconst (z := 0) zd_127_92 (by decide)]
                      exact zt_M_step_93  H
                    · rw [if_neg c30] at H
                      rw [zp_if_eq_f (x := r29) (t := 92) zd_127_85 rfl c30]
                      exact zt_M_step_88  H
                  · rw [if_neg c28] at H
                    cases H
              · rw [if_neg c25] at H
                cases H
          · rw [if_neg c23] at H
            cases H
      · rw [if_neg c4] at H
        cases H
    · rw [if_neg c3] at H
      rw [zp_if_ne_f (x := r2) (t := 27) zd_127_21 rfl c3]
      rw [zs_bipush (z := (-102)) zd_127_24 (by decide)]
      have H := Option.some.inj H
      subst H
      exact zs_ireturn zd_127_26 (by decide +kernel)
  · rw [if_neg c1] at H
    rw [zp_if_ne_f (x := (σ 82 21)) (t := 15) zd_127_9 rfl c1]
    rw [zs_bipush (z := (-101)) zd_127_12 (by decide)]
    have H := Option.some.inj H
    subst H
    exact zs_ireturn zd_127_14 (by decide +kernel)
set_option maxRecDepth 20000 in
theorem zt_Arrays_fill_c3_5 {a b L N : Nat} : ∀ {n : Nat} {σ : zS} {τ : zT} {v1 : Int32} {v2 : Int32} {v3 : Int32} {r : zS}, zb_Arrays_fill_c3_5 N n σ v1 v2 v3 = some r → zx_go 0 23 5 [some (.ref 45), some (.int v1), some (.int v2), some (.int v3)] [] ((119, a, b), zx_pk (zK L) 119, σ, τ, zR) = some (none, ((119, a, b), zx_pk (zK L) 119, r, τ, zR)) := by
  intro n
  induction n with
  | zero =>
    intro _ _ _ _ _ _ H
    cases H
  | succ n ih =>
    intro σ τ v1 v2 v3 r H
    rw [zb_Arrays_fill_c3_5] at H
    rw [zs_iload_n (ls := [some (.ref 45), some (.int v1), some (.int v2), some (.int v3)]) zd_23_5 rfl]
    rw [zs_iload_n (ls := [some (.ref 45), some (.int v1), some (.int v2), some (.int v3)]) zd_23_6 rfl]
    by_cases c1 : v3 ≤ v2
    · rw [if_pos c1] at H
      rw [zp_icmp_ge_t (x := v2) (y := v3) (t := 20) zd_23_7 rfl c1]
      have H := Option.some.inj H
      subst H
      exact zs_return zd_23_20 (by decide +kernel)
    · rw [if_neg c1] at H
      rw [zp_icmp_ge_f (x := v2) (y := v3) (t := 20) zd_23_7 rfl c1]
      rw [zs_aload_n (ls := [some (.ref 45), some (.int v1), some (.int v2), some (.int v3)]) zd_23_10 rfl]
      rw [zs_iload_n (ls := [some (.ref 45), some (.int v1), some (.int v2), some (.int v3)]) zd_23_11 rfl]
      rw [zs_iload_n (ls := [some (.ref 45), some (.int v1), some (.int v2), some (.int v3)]) zd_23_12 rfl]
      by_cases c2 : 0 ≤ v2 ∧ v2 < 8192
      · rw [if_pos c2] at H
        rw [zp_iastore (n := 119) (K := zx_pk (zK L) 119) (q := 45) (m := 8192) (i := v2) (k := v2.toNatClampNeg) (x := v1) (z := v1) zd_23_13 rfl ⟨by decide, by decide⟩ (zJ_in c2 rfl) rfl rfl]
        rw [zs_iinc (ls := [some (.ref 45), some (.int v1), some (.int v2), some (.int v3)]) (x := v2) (z := (v2 + 1)) (ls' := [some (.ref 45), some (.int v1), some (.int (v2 + 1)), some (.int v3)]) zd_23_14 rfl rfl rfl]
        rw [zs_goto (t := 5) zd_23_17 rfl]
        exact ih H
      · rw [if_neg c2] at H
        cases H
set_option maxRecDepth 20000 in
theorem zt_Arrays_fill_c3 {a b L N : Nat} {σ : zS} {τ : zT} {x2 : Int32} {r : zS} (H : zf_Arrays_fill_c3 N σ x2 = some r) : zx_go 0 23 0 [some (.ref 45), some (.int x2), none, none] [] ((119, a, b), zx_pk (zK L) 119, σ, τ, zR) = some (none, ((119, a, b), zx_pk (zK L) 119, r, τ, zR)) := by
  unfold zf_Arrays_fill_c3 at H
  rw [zs_iconst (z := 0) zd_23_0 (by decide)]
  rw [zs_istore_n (x := 0) (ls' := [some (.ref 45), some (.int x2), some (.int 0), none]) zd_23_1 (Nat.le_of_ble_eq_true rfl) rfl]
  rw [zs_aload_n (ls := [some (.ref 45), some (.int x2), some (.int 0), none]) zd_23_2 rfl]
  rw [zs_arraylength (n := 119) (K := zx_pk (zK L) 119) (q := 45) (m := 8192) (z := 8192) zd_23_3 rfl (by decide) (by decide)]
  rw [zs_istore_n (x := 8192) (ls' := [some (.ref 45), some (.int x2), some (.int 0), some (.int 8192)]) zd_23_4 (Nat.le_of_ble_eq_true rfl) rfl]
  exact zt_Arrays_fill_c3_5  H
set_option maxRecDepth 20000 in
theorem zt_Program_startersOf {a b L : Nat} {σ : zS} {τ : zT} {x1 : Int32} {r : Int32} (H : zf_Program_startersOf σ x1 = some r) : zx_go 0 132 0 [some (.ref 4), some (.int x1)] [] ((119, a, b), zx_pk (zK L) 119, σ, τ, zR) = some (some (.int r), ((119, a, b), zx_pk (zK L) 119, σ, τ, zR)) := by
  unfold zf_Program_startersOf at H
  rw [zs_iload_n (ls := [some (.ref 4), some (.int x1)]) zd_132_0 rfl]
  by_cases c1 : x1 < 0
  · rw [if_pos c1] at H
    rw [zp_if_lt_t (x := x1) (t := 18) zd_132_1 rfl c1]
    rw [zs_iconst (z := 0) zd_132_18 (by decide)]
    have H := Option.some.inj H
    subst H
    exact zs_ireturn zd_132_19 (by decide +kernel)
  · rw [if_neg c1] at H
    rw [zp_if_lt_f (x := x1) (t := 18) zd_132_1 rfl c1]
    rw [zs_iload_n (ls := [some (.ref 4), some (.int x1)]) zd_132_4 rfl]
    rw [zs_iconst (z := 4) zd_132_5 (by decide)]
    by_cases c2 : 4 ≤ x1
    · rw [if_pos c2] at H
      rw [zp_icmp_ge_t (x := x1) (y := 4) (t := 18) zd_132_6 rfl c2]
      rw [zs_iconst (z := 0) zd_132_18 (by decide)]
      have H := Option.some.inj H
      subst H
      exact zs_ireturn zd_132_19 (by decide +kernel)
    · rw [if_neg c2] at H
      rw [zp_icmp_ge_f (x := x1) (y := 4) (t := 18) zd_132_6 rfl c2]
      rw [zs_aload_n (ls := [some (.ref 4), some (.int x1)]) zd_132_9 rfl]
      rw [zs_getR (n := 119) (K := zx_pk (zK L) 119) (ρ := zR) (c := 6) (k := 8) (q := 4) (p := 6) zd_132_10 rfl rfl rfl (by decide) rfl]
      rw [zs_iload_n (ls := [some (.ref 4), some (.int x1)]) zd_132_13 rfl]
      by_cases c3 : 0 ≤ x1 ∧ x1 < 4
      · rw [if_pos c3] at H
        rw [zp_iaload (n := 119) (K := zx_pk (zK L) 119) (σ := σ) (q := 6) (m := 4) (i := x1) (k := x1.toNatClampNeg) (v := (σ 6 x1.toNatClampNeg)) zd_132_14 rfl (by decide) (zJ_in c3 rfl) rfl rfl]
        rw [zs_goto (t := 19) zd_132_15 rfl]
        have H := Option.some.inj H
        subst H
        exact zs_ireturn zd_132_19 rfl
      · rw [if_neg c3] at H
        cases H
set_option maxRecDepth 20000 in
theorem zt_Machine_setFirst_50 {a b L N : Nat} {k15 : zS → Int32 → Option (zS)} (hk15 : ∀ {σ : zS} {τ : zT} {v1 : Int32} {o2 : Option Value} {r : zS}, k15 σ v1 = some r → zx_go 1 131 15 [some (.ref 35), some (.int v1), o2] [] ((119, a, b), zx_pk (zK L) 119, σ, τ, zR) = some (none, ((119, a, b), zx_pk (zK L) 119, r, τ, zR))) {σ : zS} {τ : zT} {v1 : Int32} {v2 : Int32} {r : zS} (H : zb_Machine_setFirst_50 k15 N σ v1 v2 = some r) : zx_go 1 131 50 [some (.ref 35), some (.int v1), some (.int v2)] [] ((119, a, b), zx_pk (zK L) 119, σ, τ, zR) = some (none, ((119, a, b), zx_pk (zK L) 119, r, τ, zR)) := by
  unfold zb_Machine_setFirst_50 at H
  rw [zs_aload_n (ls := [some (.ref 35), some (.int v1), some (.int v2)]) zd_131_50 rfl]
  rw [zs_getR (n := 119) (K := zx_pk (zK L) 119) (ρ := zR) (c := 2) (k := 5) (q := 35) (p := 40) zd_131_51 rfl rfl rfl (by decide) rfl]
  rw [zs_iload_n (ls := [some (.ref 35), some (.int v1), some (.int v2)]) zd_131_54 rfl]
  rw [zs_iconst (z := 1) zd_131_55 (by decide)]
  rw [zp_iadd (x := v1) (y := 1) (z := (v1 + 1)) zd_131_56 rfl]
  rw [zs_iload_n (ls := [some (.ref 35), some (.int v1), some (.int v2)]) zd_131_57 rfl]
  rw [zs_bipush (z := 14) zd_131_58 (by decide)]
  rw [zp_ishl (x := v2) (y := 14) (z := (zJ_shl v2 14)) zd_131_60 rfl]
  by_cases c6 : 0 ≤ (v1 + 1) ∧ (v1 + 1) < 5
  · rw [if_pos c6] at H
    rw [zp_iastore (n := 119) (K := zx_pk (zK L) 119) (q := 40) (m := 5) (i := (v1 + 1)) (k := (v1 + 1).toNatClampNeg) (x := (zJ_shl v2 14)) (z := (zJ_shl v2 14)) zd_131_61 rfl ⟨by decide, by decide⟩ (zJ_in c6 rfl) rfl rfl]
    rw [zs_iinc (ls := [some (.ref 35), some (.int v1), some (.int v2)]) (x := v1) (z := (v1 + 1)) (ls' := [some (.ref 35), some (.int (v1 + 1)), some (.int v2)]) zd_131_62 rfl rfl rfl]
    rw [zs_goto (t := 15) zd_131_65 rfl]
    exact hk15 H
  · rw [if_neg c6] at H
    cases H
set_option maxRecDepth 20000 in
theorem zt_Machine_setFirst_36 {a b L N : Nat} {k15 : zS → Int32 → Option (zS)} (hk15 : ∀ {σ : zS} {τ : zT} {v1 : Int32} {o2 : Option Value} {r : zS}, k15 σ v1 = some r → zx_go 1 131 15 [some (.ref 35), some (.int v1), o2] [] ((119, a, b), zx_pk (zK L) 119, σ, τ, zR) = some (none, ((119, a, b), zx_pk (zK L) 119, r, τ, zR))) {σ : zS} {τ : zT} {v1 : Int32} {s0 : Int32} {o2 : Option Value} {r : zS} (H : zb_Machine_setFirst_36 k15 N σ v1 s0 = some r) : zx_go 1 131 36 [some (.ref 35), some (.int v1), o2] [.int s0] ((119, a, b), zx_pk (zK L) 119, σ, τ, zR) = some (none, ((119, a, b), zx_pk (zK L) 119, r, τ, zR)) := by
  unfold zb_Machine_setFirst_36 at H
  rw [zs_istore_n (x := s0) (ls' := [some (.ref 35), some (.int v1), some (.int s0)]) zd_131_36 (Nat.le_of_ble_eq_true rfl) rfl]
  rw [zs_aload_n (ls := [some (.ref 35), some (.int v1), some (.int s0)]) zd_131_37 rfl]
  rw [zs_getR (n := 119) (K := zx_pk (zK L) 119) (ρ := zR) (c := 2) (k := 0) (q := 35) (p := 4) zd_131_38 rfl rfl rfl (by decide) rfl]
  rw [zs_iload_n (ls := [some (.ref 35), some (.int v1), some (.int s0)]) zd_131_41 rfl]
  obtain ⟨r4, hr4, H⟩ := Option.bind_eq_some_iff.mp H
  rw [zp_callVi (x := r4) (st := [.int v1, .ref 4]) (as := [.ref 4, .int v1]) (rest := []) (e := 0) zd_131_42 rfl (by decide +kernel) (by decide) rfl rfl (Nat.le_of_ble_eq_true rfl) (zx_rcb_ok rfl (show 4 < 119 by decide)) (Nat.le_of_ble_eq_true rfl) rfl (by decide) (zt_Program_startersOf hr4)]
  by_cases c5 : r4 = 0
  · rw [if_pos c5] at H
    rw [zp_if_eq_t (x := r4) (t := 50) zd_131_45 rfl c5]
    exact zt_Machine_setFirst_50 (hk15 := hk15) H
  · rw [if_neg c5] at H
    rw [zp_if_eq_f (x := r4) (t := 50) zd_131_45 rfl c5]
    rw [zs_iconst (z := 0) zd_131_48 (by decide)]
    rw [zs_istore_n (x := 0) (ls' := [some (.ref 35), some (.int v1), some (.int 0)]) zd_131_49 (Nat.le_of_ble_eq_true rfl) rfl]
    exact zt_Machine_setFirst_50 (hk15 := hk15) H
set_option maxRecDepth 20000 in
theorem zt_Machine_setFirst_15 {a b L N : Nat} : ∀ {n : Nat} {σ : zS} {τ : zT} {v1 : Int32} {o2 : Option Value} {r : zS}, zb_Machine_setFirst_15 N n σ v1 = some r → zx_go 1 131 15 [some (.ref 35), some (.int v1), o2] [] ((119, a, b), zx_pk (zK L) 119, σ, τ, zR) = some (none, ((119, a, b), zx_pk (zK L) 119, r, τ, zR)) := by
  intro n
  induction n with
  | zero =>
    intro _ _ _ _ _ H
    cases H
  | succ n ih =>
    intro σ τ v1 o2 r H
    rw [zb_Machine_setFirst_15] at H
    rw [zs_iload_n (ls := [some (.ref 35), some (.int v1), o2]) zd_131_15 rfl]
    rw [zs_iconst (z := 4) zd_131_16 (by decide)]
    by_cases c1 : 4 ≤ v1
    · rw [if_pos c1] at H
      rw [zp_icmp_ge_t (x := v1) (y := 4) (t := 68) zd_131_17 rfl c1]
      have H := Option.some.inj H
      subst H
      exact zs_return zd_131_68 (by decide +kernel)
    · rw [if_neg c1] at H
      rw [zp_icmp_ge_f (x := v1) (y := 4) (t := 68) zd_131_17 rfl c1]
      rw [zs_aload_n (ls := [some (.ref 35), some (.int v1), o2]) zd_131_20 rfl]
      rw [zs_getR (n := 119) (K := zx_pk (zK L) 119) (ρ := zR) (c := 2) (k := 0) (q := 35) (p := 4) zd_131_21 rfl rfl rfl (by decide) rfl]
      rw [zs_iload_n (ls := [some (.ref 35), some (.int v1), o2]) zd_131_24 rfl]
      obtain ⟨r2, hr2, H⟩ := Option.bind_eq_some_iff.mp H
      rw [zp_callVi (x := r2) (st := [.int v1, .ref 4]) (as := [.ref 4, .int v1]) (rest := []) (e := 0) zd_131_25 rfl (by decide +kernel) (by decide) rfl rfl (Nat.le_of_ble_eq_true rfl) (zx_rcb_ok rfl (show 4 < 119 by decide)) (Nat.le_of_ble_eq_true rfl) rfl (by decide) (zt_Program_lengthOf hr2)]
      by_cases c3 : ¬ r2 = 0
      · rw [if_pos c3] at H
        rw [zp_if_ne_t (x := r2) (t := 35) zd_131_28 rfl c3]
        rw [zs_iconst (z := 1) zd_131_35 (by decide)]
        exact zt_Machine_setFirst_36 (hk15 := ih) H
      · rw [if_neg c3] at H
        rw [zp_if_ne_f (x := r2) (t := 35) zd_131_28 rfl c3]
        rw [zs_iconst (z := 4) zd_131_31 (by decide)]
        rw [zs_goto (t := 36) zd_131_32 rfl]
        exact zt_Machine_setFirst_36 (hk15 := ih) H
set_option maxRecDepth 20000 in
theorem zt_Machine_setFirst {a b L N : Nat} {σ : zS} {τ : zT} {r : zS} (H : zf_Machine_setFirst N σ = some r) : zx_go 1 131 0 [some (.ref 35), none, none] [] ((119, a, b), zx_pk (zK L) 119, σ, τ, zR) = some (none, ((119, a, b), zx_pk (zK L) 119, r, τ, zR)) := by
  unfold zf_Machine_setFirst at H
  rw [zs_aload_n (ls := [some (.ref 35), none, none]) zd_131_0 rfl]
  rw [zs_getR (n := 119) (K := zx_pk (zK L) 119) (ρ := zR) (c := 2) (k := 5) (q := 35) (p := 40) zd_131_1 rfl rfl rfl (by decide) rfl]
  rw [zs_iconst (z := 0) zd_131_4 (by decide)]
  rw [zs_aload_n (ls := [some (.ref 35), none, none]) zd_131_5 rfl]
  rw [zs_getR (n := 119) (K := zx_pk (zK L) 119) (ρ := zR) (c := 2) (k := 0) (q := 35) (p := 4) zd_131_6 rfl rfl rfl (by decide) rfl]
  rw [zp_getI (n := 119) (K := zx_pk (zK L) 119) (σ := σ) (c := 6) (k := 5) (q := 4) (v := (σ 4 5)) zd_131_9 rfl rfl rfl (by decide) rfl]
  rw [zp_iastore (n := 119) (K := zx_pk (zK L) 119) (q := 40) (m := 5) (i := 0) (k := 0) (x := (σ 4 5)) (z := (σ 4 5)) zd_131_12 rfl ⟨by decide, by decide⟩ (by decide) (by decide) rfl]
  rw [zs_iconst (z := 0) zd_131_13 (by decide)]
  rw [zs_istore_n (x := 0) (ls' := [some (.ref 35), some (.int 0), none]) zd_131_14 (Nat.le_of_ble_eq_true rfl) rfl]
  exact zt_Machine_setFirst_15  H
set_option maxRecDepth 20000 in
theorem zt_Space_has {a b L : Nat} {σ : zS} {τ : zT} {x1 : Int32} {r : Int32} (H : zf_Space_has σ x1 = some r) : zx_go 0 136 0 [some (.ref 41), some (.int x1)] [] ((119, a, b), zx_pk (zK L) 119, σ, τ, zR) = some (some (.int r), ((119, a, b), zx_pk (zK L) 119, σ, τ, zR)) := by
  unfold zf_Space_has at H
  rw [zs_iload_n (ls := [some (.ref 41), some (.int x1)]) zd_136_0 rfl]
  by_cases c1 : x1 < 0
  · rw [if_pos c1] at H
    rw [zp_if_lt_t (x := x1) (t := 23) zd_136_1 rfl c1]
    rw [zs_iconst (z := 0) zd_136_23 (by decide)]
    have H := Option.some.inj H
    subst H
    exact zs_ireturn zd_136_24 (by decide +kernel)
  · rw [if_neg c1] at H
    rw [zp_if_lt_f (x := x1) (t := 23) zd_136_1 rfl c1]
    rw [zs_iload_n (ls := [some (.ref 41), some (.int x1)]) zd_136_4 rfl]
    rw [zs_aload_n (ls := [some (.ref 41), some (.int x1)]) zd_136_5 rfl]
    rw [zp_getI (n := 119) (K := zx_pk (zK L) 119) (σ := σ) (c := 8) (k := 6) (q := 41) (v := (σ 41 6)) zd_136_6 rfl rfl rfl (by decide) rfl]
    by_cases c2 : (σ 41 6) ≤ x1
    · rw [if_pos c2] at H
      rw [zp_icmp_ge_t (x := x1) (y := (σ 41 6)) (t := 23) zd_136_9 rfl c2]
      rw [zs_iconst (z := 0) zd_136_23 (by decide)]
      have H := Option.some.inj H
      subst H
      exact zs_ireturn zd_136_24 (by decide +kernel)
    · rw [if_neg c2] at H
      rw [zp_icmp_ge_f (x := x1) (y := (σ 41 6)) (t := 23) zd_136_9 rfl c2]
      rw [zs_iload_n (ls := [some (.ref 41), some (.int x1)]) zd_136_12 rfl]
      rw [zs_sipush (z := 4000) zd_136_13 (by decide)]
      by_cases c3 : 4000 ≤ x1
      · rw [if_pos c3] at H
        rw [zp_icmp_ge_t (x := x1) (y := 4000) (t := 23) zd_136_16 rfl c3]
        rw [zs_iconst (z := 0) zd_136_23 (by decide)]
        have H := Option.some.inj H
        subst H
        exact zs_ireturn zd_136_24 (by decide +kernel)
      · rw [if_neg c3] at H
        rw [zp_icmp_ge_f (x := x1) (y := 4000) (t := 23) zd_136_16 rfl c3]
        rw [zs_iconst (z := 1) zd_136_19 (by decide)]
        rw [zs_goto (t := 24) zd_136_20 rfl]
        have H := Option.some.inj H
        subst H
        exact zs_ireturn zd_136_24 (by decide +kernel)
set_option maxRecDepth 20000 in
theorem zt_Space_isComing_2 {a b L N : Nat} : ∀ {n : Nat} {σ : zS} {τ : zT} {v1 : Int32} {v2 : Int32} {r : Int32}, zb_Space_isComing_2 N n σ v1 v2 = some r → zx_go 1 135 2 [some (.ref 41), some (.int v1), some (.int v2)] [] ((119, a, b), zx_pk (zK L) 119, σ, τ, zR) = some (some (.int r), ((119, a, b), zx_pk (zK L) 119, σ, τ, zR)) := by
  intro n
  induction n with
  | zero =>
    intro _ _ _ _ _ H
    cases H
  | succ n ih =>
    intro σ τ v1 v2 r H
    rw [zb_Space_isComing_2] at H
    rw [zs_iload_n (ls := [some (.ref 41), some (.int v1), some (.int v2)]) zd_135_2 rfl]
    rw [zs_iconst (z := 5) zd_135_3 (by decide)]
    by_cases c1 : 5 ≤ v2
    · rw [if_pos c1] at H
      rw [zp_icmp_ge_t (x := v2) (y := 5) (t := 45) zd_135_4 rfl c1]
      rw [zs_iconst (z := 1) zd_135_45 (by decide)]
      have H := Option.some.inj H
      subst H
      exact zs_ireturn zd_135_46 (by decide +kernel)
    · rw [if_neg c1] at H
      rw [zp_icmp_ge_f (x := v2) (y := 5) (t := 45) zd_135_4 rfl c1]
      rw [zs_aload_n (ls := [some (.ref 41), some (.int v1), some (.int v2)]) zd_135_7 rfl]
      rw [zs_iload_n (ls := [some (.ref 41), some (.int v1), some (.int v2)]) zd_135_8 rfl]
      obtain ⟨r2, hr2, H⟩ := Option.bind_eq_some_iff.mp H
      rw [zp_callVi (x := r2) (st := [.int v1, .ref 41]) (as := [.ref 41, .int v1]) (rest := []) (e := 0) zd_135_9 rfl (by decide +kernel) (by decide) rfl rfl (Nat.le_of_ble_eq_true rfl) (zx_rcb_ok rfl (show 41 < 119 by decide)) (Nat.le_of_ble_eq_true rfl) rfl (by decide) (zt_Space_has hr2)]
      by_cases c3 : r2 = 0
      · rw [if_pos c3] at H
        rw [zp_if_eq_t (x := r2) (t := 45) zd_135_12 rfl c3]
        rw [zs_iconst (z := 1) zd_135_45 (by decide)]
        have H := Option.some.inj H
        subst H
        exact zs_ireturn zd_135_46 (by decide +kernel)
      · rw [if_neg c3] at H
        rw [zp_if_eq_f (x := r2) (t := 45) zd_135_12 rfl c3]
        rw [zs_aload_n (ls := [some (.ref 41), some (.int v1), some (.int v2)]) zd_135_15 rfl]
        rw [zs_getR (n := 119) (K := zx_pk (zK L) 119) (ρ := zR) (c := 8) (k := 2) (q := 41) (p := 42) zd_135_16 rfl rfl rfl (by decide) rfl]
        rw [zs_iload_n (ls := [some (.ref 41), some (.int v1), some (.int v2)]) zd_135_19 rfl]
        rw [zs_iconst (z := 5) zd_135_20 (by decide)]
        rw [zp_imul (x := v1) (y := 5) (z := (v1 * 5)) zd_135_21 rfl]
        rw [zs_iload_n (ls := [some (.ref 41), some (.int v1), some (.int v2)]) zd_135_22 rfl]
        rw [zp_iadd (x := (v1 * 5)) (y := v2) (z := ((v1 * 5) + v2)) zd_135_23 rfl]
        by_cases c4 : 0 ≤ ((v1 * 5) + v2) ∧ ((v1 * 5) + v2) < 20000
        · rw [if_pos c4] at H
          rw [zp_iaload (n := 119) (K := zx_pk (zK L) 119) (σ := σ) (q := 42) (m := 20000) (i := ((v1 * 5) + v2)) (k := ((v1 * 5) + v2).toNatClampNeg) (v := (σ 42 ((v1 * 5) + v2).toNatClampNeg)) zd_135_24 rfl (by decide) (zJ_in c4 rfl) rfl rfl]
          rw [zs_aload_n (ls := [some (.ref 41), some (.int v1), some (.int v2)]) zd_135_25 rfl]
          rw [zs_getR (n := 119) (K := zx_pk (zK L) 119) (ρ := zR) (c := 8) (k := 1) (q := 41) (p := 35) zd_135_26 rfl rfl rfl (by decide) rfl]
          rw [zs_getR (n := 119) (K := zx_pk (zK L) 119) (ρ := zR) (c := 2) (k := 5) (q := 35) (p := 40) zd_135_29 rfl rfl rfl (by decide) rfl]
          rw [zs_iload_n (ls := [some (.ref 41), some (.int v1), some (.int v2)]) zd_135_32 rfl]
          by_cases c5 : 0 ≤ v2 ∧ v2 < 5
          · rw [if_pos c5] at H
            rw [zp_iaload (n := 119) (K := zx_pk (zK L) 119) (σ := σ) (q := 40) (m := 5) (i := v2) (k := v2.toNatClampNeg) (v := (σ 40 v2.toNatClampNeg)) zd_135_33 rfl (by decide) (zJ_in c5 rfl) rfl rfl]
            by_cases c6 : (σ 42 ((v1 * 5) + v2).toNatClampNeg) = (σ 40 v2.toNatClampNeg)
            · rw [if_pos c6] at H
              rw [zp_icmp_eq_t (x := (σ 42 ((v1 * 5) + v2).toNatClampNeg)) (y := (σ 40 v2.toNatClampNeg)) (t := 39) zd_135_34 rfl c6]
              rw [zs_iinc (ls := [some (.ref 41), some (.int v1), some (.int v2)]) (x := v2) (z := (v2 + 1)) (ls' := [some (.ref 41), some (.int v1), some (.int (v2 + 1))]) zd_135_39 rfl rfl rfl]
              rw [zs_goto (t := 2) zd_135_42 rfl]
              exact ih H
            · rw [if_neg c6] at H
              rw [zp_icmp_eq_f (x := (σ 42 ((v1 * 5) + v2).toNatClampNeg)) (y := (σ 40 v2.toNatClampNeg)) (t := 39) zd_135_34 rfl c6]
              rw [zs_iconst (z := 0) zd_135_37 (by decide)]
              have H := Option.some.inj H
              subst H
              exact zs_ireturn zd_135_38 (by decide +kernel)
          · rw [if_neg c5] at H
            cases H
        · rw [if_neg c4] at H
          cases H
set_option maxRecDepth 20000 in
theorem zt_Space_isComing {a b L N : Nat} {σ : zS} {τ : zT} {x1 : Int32} {r : Int32} (H : zf_Space_isComing N σ x1 = some r) : zx_go 1 135 0 [some (.ref 41), some (.int x1), none] [] ((119, a, b), zx_pk (zK L) 119, σ, τ, zR) = some (some (.int r), ((119, a, b), zx_pk (zK L) 119, σ, τ, zR)) := by
  unfold zf_Space_isComing at H
  rw [zs_iconst (z := 0) zd_135_0 (by decide)]
  rw [zs_istore_n (x := 0) (ls' := [some (.ref 41), some (.int x1), some (.int 0)]) zd_135_1 (Nat.le_of_ble_eq_true rfl) rfl]
  exact zt_Space_isComing_2  H
set_option maxRecDepth 20000 in
theorem zt_Space_slotOfComing_45 {a b L N : Nat} : ∀ {n : Nat} {σ : zS} {τ : zT} {v2 : Int32} {v3 : Int32} {o1 : Option Value} {r : Int32}, zb_Space_slotOfComing_45 N n σ v2 v3 = some r → zx_go 2 134 45 [some (.ref 41), o1, some (.int v2), some (.int v3)] [] ((119, a, b), zx_pk (zK L) 119, σ, τ, zR) = some (some (.int r), ((119, a, b), zx_pk (zK L) 119, σ, τ, zR)) := by
  intro n
  induction n with
  | zero =>
    intro _ _ _ _ _ _ H
    cases H
  | succ n ih =>
    intro σ τ v2 v3 o1 r H
    rw [zb_Space_slotOfComing_45] at H
    rw [zs_iload_n (ls := [some (.ref 41), o1, some (.int v2), some (.int v3)]) zd_134_45 rfl]
    rw [zs_sipush (z := 8192) zd_134_46 (by decide)]
    by_cases c2 : 8192 ≤ v3
    · rw [if_pos c2] at H
      rw [zp_icmp_ge_t (x := v3) (y := 8192) (t := 92) zd_134_49 rfl c2]
      rw [zs_iload_n (ls := [some (.ref 41), o1, some (.int v2), some (.int v3)]) zd_134_92 rfl]
      have H := Option.some.inj H
      subst H
      exact zs_ireturn zd_134_93 rfl
    · rw [if_neg c2] at H
      rw [zp_icmp_ge_f (x := v3) (y := 8192) (t := 92) zd_134_49 rfl c2]
      rw [zs_aload_n (ls := [some (.ref 41), o1, some (.int v2), some (.int v3)]) zd_134_52 rfl]
      rw [zs_getR (n := 119) (K := zx_pk (zK L) 119) (ρ := zR) (c := 8) (k := 5) (q := 41) (p := 45) zd_134_53 rfl rfl rfl (by decide) rfl]
      rw [zs_iload_n (ls := [some (.ref 41), o1, some (.int v2), some (.int v3)]) zd_134_56 rfl]
      by_cases c3 : 0 ≤ v2 ∧ v2 < 8192
      · rw [if_pos c3] at H
        rw [zp_iaload (n := 119) (K := zx_pk (zK L) 119) (σ := σ) (q := 45) (m := 8192) (i := v2) (k := v2.toNatClampNeg) (v := (σ 45 v2.toNatClampNeg)) zd_134_57 rfl (by decide) (zJ_in c3 rfl) rfl rfl]
        by_cases c4 : (σ 45 v2.toNatClampNeg) = 0
        · rw [if_pos c4] at H
          rw [zp_if_eq_t (x := (σ 45 v2.toNatClampNeg)) (t := 92) zd_134_58 rfl c4]
          rw [zs_iload_n (ls := [some (.ref 41), o1, some (.int v2), some (.int v3)]) zd_134_92 rfl]
          have H := Option.some.inj H
          subst H
          exact zs_ireturn zd_134_93 rfl
        · rw [if_neg c4] at H
          rw [zp_if_eq_f (x := (σ 45 v2.toNatClampNeg)) (t := 92) zd_134_58 rfl c4]
          rw [zs_aload_n (ls := [some (.ref 41), o1, some (.int v2), some (.int v3)]) zd_134_61 rfl]
          rw [zs_aload_n (ls := [some (.ref 41), o1, some (.int v2), some (.int v3)]) zd_134_62 rfl]
          rw [zs_getR (n := 119) (K := zx_pk (zK L) 119) (ρ := zR) (c := 8) (k := 5) (q := 41) (p := 45) zd_134_63 rfl rfl rfl (by decide) rfl]
          rw [zs_iload_n (ls := [some (.ref 41), o1, some (.int v2), some (.int v3)]) zd_134_66 rfl]
          by_cases c5 : 0 ≤ v2 ∧ v2 < 8192
          · rw [if_pos c5] at H
            rw [zp_iaload (n := 119) (K := zx_pk (zK L) 119) (σ := σ) (q := 45) (m := 8192) (i := v2) (k := v2.toNatClampNeg) (v := (σ 45 v2.toNatClampNeg)) zd_134_67 rfl (by decide) (zJ_in c5 rfl) rfl rfl]
            rw [zs_iconst (z := 1) zd_134_68 (by decide)]
            rw [zp_isub (x := (σ 45 v2.toNatClampNeg)) (y := 1) (z := ((σ 45 v2.toNatClampNeg) - 1)) zd_134_69 rfl]
            obtain ⟨r6, hr6, H⟩ := Option.bind_eq_some_iff.mp H
            rw [zp_callVi (x := r6) (st := [.int ((σ 45 v2.toNatClampNeg) - 1), .ref 41]) (as := [.ref 41, .int ((σ 45 v2.toNatClampNeg) - 1)]) (rest := []) (e := 1) zd_134_70 rfl (by decide +kernel) (by decide) rfl rfl (Nat.le_of_ble_eq_true rfl) (zx_rcb_ok rfl (show 41 < 119 by decide)) (Nat.le_of_ble_eq_true rfl) rfl (by decide) (zt_Space_isComing hr6)]
            by_cases c7 : r6 = 0
            · rw [if_pos c7] at H
              rw [zp_if_eq_t (x := r6) (t := 78) zd_134_73 rfl c7]
              rw [zs_iload_n (ls := [some (.ref 41), o1, some (.int v2), some (.int v3)]) zd_134_78 rfl]
              rw [zs_iconst (z := 1) zd_134_79 (by decide)]
              rw [zp_iadd (x := v2) (y := 1) (z := (v2 + 1)) zd_134_80 rfl]
              rw [zs_sipush (z := 8191) zd_134_81 (by decide)]
              rw [zp_iand (x := (v2 + 1)) (y := 8191) (z := ((v2 + 1) &&& 8191)) zd_134_84 rfl]
              rw [zs_istore_n (x := ((v2 + 1) &&& 8191)) (ls' := [some (.ref 41), (zJ_cl o1), some (.int ((v2 + 1) &&& 8191)), some (.int v3)]) zd_134_85 (Nat.le_of_ble_eq_true rfl) (zJ_s1 (k := 1) (o := o1) rfl)]
              rw [zs_iinc (ls := [some (.ref 41), (zJ_cl o1), some (.int ((v2 + 1) &&& 8191)), some (.int v3)]) (x := v3) (z := (v3 + 1)) (ls' := [some (.ref 41), (zJ_cl o1), some (.int ((v2 + 1) &&& 8191)), some (.int (v3 + 1))]) zd_134_86 rfl rfl rfl]
              rw [zs_goto (t := 45) zd_134_89 rfl]
              exact ih H
            · rw [if_neg c7] at H
              rw [zp_if_eq_f (x := r6) (t := 78) zd_134_73 rfl c7]
              rw [zs_iload_n (ls := [some (.ref 41), o1, some (.int v2), some (.int v3)]) zd_134_76 rfl]
              have H := Option.some.inj H
              subst H
              exact zs_ireturn zd_134_77 rfl
          · rw [if_neg c5] at H
            cases H
      · rw [if_neg c3] at H
        cases H
