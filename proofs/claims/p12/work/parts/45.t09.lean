/-! theorems of the functions, by program -/
set_option maxRecDepth 20000 in
theorem zt_Judge_stepsAfter {a b L N : Nat} {σ : zS} {τ : zT} {x1 : Int32} {x2 : Int32} {r : Int32} (H : zf_Judge_stepsAfter N σ x1 x2 = some r) : zx_go 3 236 0 [some (.ref 76), some (.int x1), some (.int x2), none, none] [] ((119, a, b), zx_pk (zK L) 119, σ, τ, zR) = some (some (.int r), ((119, a, b), zx_pk (zK L) 119, σ, τ, zR)) := by
  unfold zf_Judge_stepsAfter at H
  rw [zs_iconst (z := 0) zd_236_0 (by decide)]
  rw [zs_istore_n (x := 0) (ls' := [some (.ref 76), some (.int x1), some (.int x2), some (.int 0), none]) zd_236_1 (Nat.le_of_ble_eq_true rfl) rfl]
  rw [zs_iconst (z := 0) zd_236_2 (by decide)]
  rw [zs_istore (x := 0) (ls' := [some (.ref 76), some (.int x1), some (.int x2), some (.int 0), some (.int 0)]) zd_236_3 (Nat.le_of_ble_eq_true rfl) rfl]
  exact zt_Judge_stepsAfter_5  H
set_option maxRecDepth 20000 in
theorem zt_Judge_stepsNear_16 {a b L N : Nat} {σ : zS} {τ : zT} {v1 : Int32} {v2 : Int32} {s0 : Int32} {o3 : Option Value} {o4 : Option Value} {r : Int32} (H : zb_Judge_stepsNear_16 N σ v1 v2 s0 = some r) : zx_go 4 232 16 [some (.ref 76), some (.int v1), some (.int v2), o3, o4] [.int s0] ((119, a, b), zx_pk (zK L) 119, σ, τ, zR) = some (some (.int r), ((119, a, b), zx_pk (zK L) 119, σ, τ, zR)) := by
  unfold zb_Judge_stepsNear_16 at H
  rw [zs_istore_n (x := s0) (ls' := [some (.ref 76), some (.int v1), some (.int v2), some (.int s0), o4]) zd_232_16 (Nat.le_of_ble_eq_true rfl) rfl]
  rw [zs_aload_n (ls := [some (.ref 76), some (.int v1), some (.int v2), some (.int s0), o4]) zd_232_17 rfl]
  rw [zs_iload_n (ls := [some (.ref 76), some (.int v1), some (.int v2), some (.int s0), o4]) zd_232_18 rfl]
  rw [zs_iload_n (ls := [some (.ref 76), some (.int v1), some (.int v2), some (.int s0), o4]) zd_232_19 rfl]
  rw [zs_aload_n (ls := [some (.ref 76), some (.int v1), some (.int v2), some (.int s0), o4]) zd_232_20 rfl]
  rw [zs_iload_n (ls := [some (.ref 76), some (.int v1), some (.int v2), some (.int s0), o4]) zd_232_21 rfl]
  rw [zs_bipush (z := 11) zd_232_22 (by decide)]
  rw [zs_iload_n (ls := [some (.ref 76), some (.int v1), some (.int v2), some (.int s0), o4]) zd_232_24 rfl]
  obtain ⟨r3, hr3, H⟩ := Option.bind_eq_some_iff.mp H
  rw [zp_callVi (x := r3) (st := [.int v2, .int 11, .int v1, .ref 76, .int s0, .int v1, .ref 76]) (as := [.ref 76, .int v1, .int 11, .int v2]) (rest := [.int s0, .int v1, .ref 76]) (e := 1) zd_232_25 rfl (by decide +kernel) (by decide) rfl rfl (Nat.le_of_ble_eq_true rfl) (zx_rcb_ok rfl (show 76 < 119 by decide)) (Nat.le_of_ble_eq_true rfl) rfl (by decide) (zt_Judge_stepsWith hr3)]
  obtain ⟨r4, hr4, H⟩ := Option.bind_eq_some_iff.mp H
  rw [zp_callVi (x := r4) (st := [.int r3, .int s0, .int v1, .ref 76]) (as := [.ref 76, .int v1, .int s0, .int r3]) (rest := []) (e := 2) zd_232_28 rfl (by decide +kernel) (by decide) rfl rfl (Nat.le_of_ble_eq_true rfl) (zx_rcb_ok rfl (show 76 < 119 by decide)) (Nat.le_of_ble_eq_true rfl) rfl (by decide) (zt_Judge_spread hr4)]
  rw [zs_istore (x := r4) (ls' := [some (.ref 76), some (.int v1), some (.int v2), some (.int s0), some (.int r4)]) zd_232_31 (Nat.le_of_ble_eq_true rfl) rfl]
  rw [zs_iload_n (ls := [some (.ref 76), some (.int v1), some (.int v2), some (.int s0), some (.int r4)]) zd_232_33 rfl]
  rw [zs_iload_n (ls := [some (.ref 76), some (.int v1), some (.int v2), some (.int s0), some (.int r4)]) zd_232_34 rfl]
  by_cases c5 : v2 = v1
  · rw [if_pos c5] at H
    rw [zp_icmp_eq_t (x := v2) (y := v1) (t := 70) zd_232_35 rfl c5]
    rw [zs_iload (ls := [some (.ref 76), some (.int v1), some (.int v2), some (.int s0), some (.int r4)]) zd_232_70 rfl]
    have H := Option.some.inj H
    subst H
    exact zs_ireturn zd_232_72 rfl
  · rw [if_neg c5] at H
    rw [zp_icmp_eq_f (x := v2) (y := v1) (t := 70) zd_232_35 rfl c5]
    rw [zs_aload_n (ls := [some (.ref 76), some (.int v1), some (.int v2), some (.int s0), some (.int r4)]) zd_232_38 rfl]
    rw [zs_getR (n := 119) (K := zx_pk (zK L) 119) (ρ := zR) (c := 1) (k := 0) (q := 76) (p := 4) zd_232_39 rfl rfl rfl (by decide) rfl]
    rw [zs_iload_n (ls := [some (.ref 76), some (.int v1), some (.int v2), some (.int s0), some (.int r4)]) zd_232_42 rfl]
    obtain ⟨r6, hr6, H⟩ := Option.bind_eq_some_iff.mp H
    rw [zp_callVi (x := r6) (st := [.int v2, .ref 4]) (as := [.ref 4, .int v2]) (rest := []) (e := 0) zd_232_43 rfl (by decide +kernel) (by decide) rfl rfl (Nat.le_of_ble_eq_true rfl) (zx_rcb_ok rfl (show 4 < 119 by decide)) (Nat.le_of_ble_eq_true rfl) rfl (by decide) (zt_Program_startersOf hr6)]
    rw [zs_iconst (z := 1) zd_232_46 (by decide)]
    rw [zs_iload_n (ls := [some (.ref 76), some (.int v1), some (.int v2), some (.int s0), some (.int r4)]) zd_232_47 rfl]
    rw [zp_ishl (x := 1) (y := v1) (z := (zJ_shl 1 v1)) zd_232_48 rfl]
    by_cases c7 : ¬ r6 = (zJ_shl 1 v1)
    · rw [if_pos c7] at H
      rw [zp_icmp_ne_t (x := r6) (y := (zJ_shl 1 v1)) (t := 70) zd_232_49 rfl c7]
      rw [zs_iload (ls := [some (.ref 76), some (.int v1), some (.int v2), some (.int s0), some (.int r4)]) zd_232_70 rfl]
      have H := Option.some.inj H
      subst H
      exact zs_ireturn zd_232_72 rfl
    · rw [if_neg c7] at H
      rw [zp_icmp_ne_f (x := r6) (y := (zJ_shl 1 v1)) (t := 70) zd_232_49 rfl c7]
      rw [zs_iload (ls := [some (.ref 76), some (.int v1), some (.int v2), some (.int s0), some (.int r4)]) zd_232_52 rfl]
      rw [zs_aload_n (ls := [some (.ref 76), some (.int v1), some (.int v2), some (.int s0), some (.int r4)]) zd_232_54 rfl]
      rw [zs_iload_n (ls := [some (.ref 76), some (.int v1), some (.int v2), some (.int s0), some (.int r4)]) zd_232_55 rfl]
      rw [zs_aload_n (ls := [some (.ref 76), some (.int v1), some (.int v2), some (.int s0), some (.int r4)]) zd_232_56 rfl]
      rw [zs_iload_n (ls := [some (.ref 76), some (.int v1), some (.int v2), some (.int s0), some (.int r4)]) zd_232_57 rfl]
      rw [zs_bipush (z := 10) zd_232_58 (by decide)]
      rw [zs_iload_n (ls := [some (.ref 76), some (.int v1), some (.int v2), some (.int s0), some (.int r4)]) zd_232_60 rfl]
      obtain ⟨r8, hr8, H⟩ := Option.bind_eq_some_iff.mp H
      rw [zp_callVi (x := r8) (st := [.int v2, .int 10, .int v1, .ref 76, .int v1, .ref 76, .int r4]) (as := [.ref 76, .int v1, .int 10, .int v2]) (rest := [.int v1, .ref 76, .int r4]) (e := 1) zd_232_61 rfl (by decide +kernel) (by decide) rfl rfl (Nat.le_of_ble_eq_true rfl) (zx_rcb_ok rfl (show 76 < 119 by decide)) (Nat.le_of_ble_eq_true rfl) rfl (by decide) (zt_Judge_stepsWith hr8)]
      obtain ⟨r9, hr9, H⟩ := Option.bind_eq_some_iff.mp H
      rw [zp_callVi (x := r9) (st := [.int r8, .int v1, .ref 76, .int r4]) (as := [.ref 76, .int v1, .int r8]) (rest := [.int r4]) (e := 3) zd_232_64 rfl (by decide +kernel) (by decide) rfl rfl (Nat.le_of_ble_eq_true rfl) (zx_rcb_ok rfl (show 76 < 119 by decide)) (Nat.le_of_ble_eq_true rfl) rfl (by decide) (zt_Judge_stepsAfter hr9)]
      rw [zp_iand (x := r4) (y := r9) (z := (r4 &&& r9)) zd_232_67 rfl]
      rw [zs_istore (x := (r4 &&& r9)) (ls' := [some (.ref 76), some (.int v1), some (.int v2), some (.int s0), some (.int (r4 &&& r9))]) zd_232_68 (Nat.le_of_ble_eq_true rfl) rfl]
      rw [zs_iload (ls := [some (.ref 76), some (.int v1), some (.int v2), some (.int s0), some (.int (r4 &&& r9))]) zd_232_70 rfl]
      have H := Option.some.inj H
      subst H
      exact zs_ireturn zd_232_72 rfl
set_option maxRecDepth 20000 in
theorem zt_Judge_stepsNear {a b L N : Nat} {σ : zS} {τ : zT} {x1 : Int32} {x2 : Int32} {r : Int32} (H : zf_Judge_stepsNear N σ x1 x2 = some r) : zx_go 4 232 0 [some (.ref 76), some (.int x1), some (.int x2), none, none] [] ((119, a, b), zx_pk (zK L) 119, σ, τ, zR) = some (some (.int r), ((119, a, b), zx_pk (zK L) 119, σ, τ, zR)) := by
  unfold zf_Judge_stepsNear at H
  rw [zs_aload_n (ls := [some (.ref 76), some (.int x1), some (.int x2), none, none]) zd_232_0 rfl]
  rw [zs_getR (n := 119) (K := zx_pk (zK L) 119) (ρ := zR) (c := 1) (k := 0) (q := 76) (p := 4) zd_232_1 rfl rfl rfl (by decide) rfl]
  rw [zs_iload_n (ls := [some (.ref 76), some (.int x1), some (.int x2), none, none]) zd_232_4 rfl]
  obtain ⟨r1, hr1, H⟩ := Option.bind_eq_some_iff.mp H
  rw [zp_callVi (x := r1) (st := [.int x1, .ref 4]) (as := [.ref 4, .int x1]) (rest := []) (e := 0) zd_232_5 rfl (by decide +kernel) (by decide) rfl rfl (Nat.le_of_ble_eq_true rfl) (zx_rcb_ok rfl (show 4 < 119 by decide)) (Nat.le_of_ble_eq_true rfl) rfl (by decide) (zt_Program_lengthOf hr1)]
  by_cases c2 : r1 ≤ 0
  · rw [if_pos c2] at H
    rw [zp_if_le_t (x := r1) (t := 15) zd_232_8 rfl c2]
    rw [zs_iconst (z := 0) zd_232_15 (by decide)]
    exact zt_Judge_stepsNear_16  H
  · rw [if_neg c2] at H
    rw [zp_if_le_f (x := r1) (t := 15) zd_232_8 rfl c2]
    rw [zs_iconst (z := 1) zd_232_11 (by decide)]
    rw [zs_goto (t := 16) zd_232_12 rfl]
    exact zt_Judge_stepsNear_16  H
set_option maxRecDepth 20000 in
theorem zt_Judge_prepare_14 {a b L N : Nat} : ∀ {n : Nat} {σ : zS} {τ : zT} {v1 : Int32} {r : zS}, zb_Judge_prepare_14 N n σ v1 = some r → zx_go 32 231 14 [some (.ref 76), some (.int v1)] [] ((119, a, b), zx_pk (zK L) 119, σ, τ, zR) = some (none, ((119, a, b), zx_pk (zK L) 119, r, τ, zR)) := by
  intro n
  induction n with
  | zero =>
    intro _ _ _ _ H
    cases H
  | succ n ih =>
    intro σ τ v1 r H
    rw [zb_Judge_prepare_14] at H
    rw [zs_iload_n (ls := [some (.ref 76), some (.int v1)]) zd_231_14 rfl]
    rw [zs_bipush (z := 16) zd_231_15 (by decide)]
    by_cases c2 : 16 ≤ v1
    · rw [if_pos c2] at H
      rw [zp_icmp_ge_t (x := v1) (y := 16) (t := 42) zd_231_17 rfl c2]
      rw [zs_aload_n (ls := [some (.ref 76), some (.int v1)]) zd_231_42 rfl]
      obtain ⟨r3, hr3, H⟩ := Option.bind_eq_some_iff.mp H
      rw [zp_callVv (st := [.ref 76]) (as := [.ref 76]) (rest := []) (e := 2) zd_231_43 rfl (by decide +kernel) (by decide) rfl rfl (Nat.le_of_ble_eq_true rfl) (zx_rcb_ok rfl (show 76 < 119 by decide)) (Nat.le_of_ble_eq_true rfl) rfl (by decide) (zt_Judge_listDoubts hr3)]
      rw [zs_aload_n (ls := [some (.ref 76), some (.int v1)]) zd_231_46 rfl]
      rw [zs_aload_n (ls := [some (.ref 76), some (.int v1)]) zd_231_47 rfl]
      obtain ⟨r4, hr4, H⟩ := Option.bind_eq_some_iff.mp H
      rw [zp_callVi (x := r4.1) (st := [.ref 76, .ref 76]) (as := [.ref 76]) (rest := [.ref 76]) (e := 31) zd_231_48 rfl (by decide +kernel) (by decide) rfl rfl (Nat.le_of_ble_eq_true rfl) (zx_rcb_ok rfl (show 76 < 119 by decide)) (Nat.le_of_ble_eq_true rfl) rfl (by decide) (zt_Judge_countRings hr4)]
      rw [zs_putI (n := 119) (K := zx_pk (zK L) 119) (c := 1) (k := 4) (q := 76) (x := r4.1) zd_231_51 rfl rfl (by decide +kernel) rfl (by decide)]
      have H := Option.some.inj H
      subst H
      exact zs_return zd_231_54 (by decide +kernel)
    · rw [if_neg c2] at H
      rw [zp_icmp_ge_f (x := v1) (y := 16) (t := 42) zd_231_17 rfl c2]
      rw [zs_aload_n (ls := [some (.ref 76), some (.int v1)]) zd_231_20 rfl]
      rw [zs_getR (n := 119) (K := zx_pk (zK L) 119) (ρ := zR) (c := 1) (k := 1) (q := 76) (p := 77) zd_231_21 rfl rfl rfl (by decide) rfl]
      rw [zs_iload_n (ls := [some (.ref 76), some (.int v1)]) zd_231_24 rfl]
      rw [zs_aload_n (ls := [some (.ref 76), some (.int v1)]) zd_231_25 rfl]
      rw [zs_iload_n (ls := [some (.ref 76), some (.int v1)]) zd_231_26 rfl]
      rw [zs_iconst (z := 4) zd_231_27 (by decide)]
      rw [zp_idiv (x := v1) (y := 4) (z := (v1 / 4)) zd_231_28 (by decide) rfl]
      rw [zs_iload_n (ls := [some (.ref 76), some (.int v1)]) zd_231_29 rfl]
      rw [zs_iconst (z := 4) zd_231_30 (by decide)]
      rw [zp_irem (x := v1) (y := 4) (z := (zJ_rem v1 4)) zd_231_31 (by decide) rfl]
      obtain ⟨r5, hr5, H⟩ := Option.bind_eq_some_iff.mp H
      rw [zp_callVi (x := r5) (st := [.int (zJ_rem v1 4), .int (v1 / 4), .ref 76, .int v1, .ref 77]) (as := [.ref 76, .int (v1 / 4), .int (zJ_rem v1 4)]) (rest := [.int v1, .ref 77]) (e := 4) zd_231_32 rfl (by decide +kernel) (by decide) rfl rfl (Nat.le_of_ble_eq_true rfl) (zx_rcb_ok rfl (show 76 < 119 by decide)) (Nat.le_of_ble_eq_true rfl) rfl (by decide) (zt_Judge_stepsNear hr5)]
      by_cases c6 : 0 ≤ v1 ∧ v1 < 16
      · rw [if_pos c6] at H
        rw [zp_iastore (n := 119) (K := zx_pk (zK L) 119) (q := 77) (m := 16) (i := v1) (k := v1.toNatClampNeg) (x := r5) (z := r5) zd_231_35 rfl ⟨by decide, by decide⟩ (zJ_in c6 rfl) rfl rfl]
        rw [zs_iinc (ls := [some (.ref 76), some (.int v1)]) (x := v1) (z := (v1 + 1)) (ls' := [some (.ref 76), some (.int (v1 + 1))]) zd_231_36 rfl rfl rfl]
        rw [zs_goto (t := 14) zd_231_39 rfl]
        exact ih H
      · rw [if_neg c6] at H
        cases H
set_option maxRecDepth 20000 in
theorem zt_Judge_prepare {a b L N : Nat} {σ : zS} {τ : zT} {r : zS} (H : zf_Judge_prepare N σ = some r) : zx_go 32 231 0 [some (.ref 76), none] [] ((119, a, b), zx_pk (zK L) 119, σ, τ, zR) = some (none, ((119, a, b), zx_pk (zK L) 119, r, τ, zR)) := by
  unfold zf_Judge_prepare at H
  rw [zs_aload_n (ls := [some (.ref 76), none]) zd_231_0 rfl]
  rw [zp_getZ (n := 119) (K := zx_pk (zK L) 119) (σ := σ) (c := 1) (k := 5) (q := 76) (v := (σ 76 5)) zd_231_1 rfl rfl rfl (by decide) rfl]
  by_cases c1 : ¬ (σ 76 5) = 0
  · rw [if_pos c1] at H
    rw [zp_if_ne_t (x := (σ 76 5)) (t := 54) zd_231_4 rfl c1]
    have H := Option.some.inj H
    subst H
    exact zs_return zd_231_54 (by decide +kernel)
  · rw [if_neg c1] at H
    rw [zp_if_ne_f (x := (σ 76 5)) (t := 54) zd_231_4 rfl c1]
    rw [zs_aload_n (ls := [some (.ref 76), none]) zd_231_7 rfl]
    rw [zs_iconst (z := 1) zd_231_8 (by decide)]
    rw [zs_putZ (n := 119) (K := zx_pk (zK L) 119) (c := 1) (k := 5) (q := 76) (x := 1) zd_231_9 rfl rfl (by decide +kernel) rfl (by decide) rfl]
    rw [zs_iconst (z := 0) zd_231_12 (by decide)]
    rw [zs_istore_n (x := 0) (ls' := [some (.ref 76), some (.int 0)]) zd_231_13 (Nat.le_of_ble_eq_true rfl) rfl]
    exact zt_Judge_prepare_14  H
set_option maxRecDepth 20000 in
theorem zt_X_doubts {a b L N : Nat} {σ : zS} {τ : zT} {r : Int32 × zS} (H : zf_X_doubts N σ = some r) : zx_go 33 230 0 [some (.ref 2)] [] ((119, a, b), zx_pk (zK L) 119, σ, τ, zR) = some (some (.int r.1), ((119, a, b), zx_pk (zK L) 119, r.2, τ, zR)) := by
  unfold zf_X_doubts at H
  rw [zs_aload_n (ls := [some (.ref 2)]) zd_230_0 rfl]
  rw [zp_getZ (n := 119) (K := zx_pk (zK L) 119) (σ := σ) (c := 11) (k := 13) (q := 2) (v := (σ 2 13)) zd_230_1 rfl rfl rfl (by decide) rfl]
  by_cases c1 : ¬ (σ 2 13) = 0
  · rw [if_pos c1] at H
    rw [zp_if_ne_t (x := (σ 2 13)) (t := 10) zd_230_4 rfl c1]
    rw [zs_aload_n (ls := [some (.ref 2)]) zd_230_10 rfl]
    rw [zs_getR (n := 119) (K := zx_pk (zK L) 119) (ρ := zR) (c := 11) (k := 9) (q := 2) (p := 76) zd_230_11 rfl rfl rfl (by decide) rfl]
    obtain ⟨r2, hr2, H⟩ := Option.bind_eq_some_iff.mp H
    rw [zp_callVv (st := [.ref 76]) (as := [.ref 76]) (rest := []) (e := 32) zd_230_14 rfl (by decide +kernel) (by decide) rfl rfl (Nat.le_of_ble_eq_true rfl) (zx_rcb_ok rfl (show 76 < 119 by decide)) (Nat.le_of_ble_eq_true rfl) rfl (by decide) (zt_Judge_prepare hr2)]
    rw [zs_aload_n (ls := [some (.ref 2)]) zd_230_17 rfl]
    rw [zs_getR (n := 119) (K := zx_pk (zK L) 119) (ρ := zR) (c := 11) (k := 9) (q := 2) (p := 76) zd_230_18 rfl rfl rfl (by decide) rfl]
    rw [zs_getR (n := 119) (K := zx_pk (zK L) 119) (ρ := zR) (c := 1) (k := 3) (q := 76) (p := 79) zd_230_21 rfl rfl rfl (by decide) rfl]
    rw [zp_getI (n := 119) (K := zx_pk (zK L) 119) (σ := r2) (c := 4) (k := 1) (q := 79) (v := (r2 79 1)) zd_230_24 rfl rfl rfl (by decide) rfl]
    have H := Option.some.inj H
    subst H
    exact zs_ireturn zd_230_27 rfl
  · rw [if_neg c1] at H
    rw [zp_if_ne_f (x := (σ 2 13)) (t := 10) zd_230_4 rfl c1]
    rw [zs_bipush (z := (-101)) zd_230_7 (by decide)]
    have H := Option.some.inj H
    subst H
    exact zs_ireturn zd_230_9 (by decide +kernel)
set_option maxRecDepth 20000 in
theorem zt_M_behindOf_69 {a b L : Nat} {σ : zS} {τ : zT} {v1 : Int32} {s0 : Int32} {o2 : Option Value} {o3 : Option Value} {o4 : Option Value} {r : Int32} (H : zb_M_behindOf_69 σ v1 s0 = some r) : zx_go 0 249 69 [some (.ref 82), some (.int v1), o2, o3, o4] [.int s0] ((119, a, b), zx_pk (zK L) 119, σ, τ, zR) = some (some (.int r), ((119, a, b), zx_pk (zK L) 119, σ, τ, zR)) := by
  unfold zb_M_behindOf_69 at H
  rw [zs_istore (x := s0) (ls' := [some (.ref 82), some (.int v1), o2, (zJ_cl o3), some (.int s0)]) zd_249_69 (Nat.le_of_ble_eq_true rfl) (zJ_s1 (k := 3) (o := o3) rfl)]
  rw [zs_iload (ls := [some (.ref 82), some (.int v1), o2, (zJ_cl o3), some (.int s0)]) zd_249_71 rfl]
  rw [zs_iconst (z := 1) zd_249_73 (by decide)]
  rw [zs_aload_n (ls := [some (.ref 82), some (.int v1), o2, (zJ_cl o3), some (.int s0)]) zd_249_74 rfl]
  rw [zs_getR (n := 119) (K := zx_pk (zK L) 119) (ρ := zR) (c := 12) (k := 24) (q := 82) (p := 90) zd_249_75 rfl rfl rfl (by decide) rfl]
  rw [zs_iload_n (ls := [some (.ref 82), some (.int v1), o2, (zJ_cl o3), some (.int s0)]) zd_249_78 rfl]
  by_cases c7 : 0 ≤ v1 ∧ v1 < 4
  · rw [if_pos c7] at H
    rw [zp_iaload (n := 119) (K := zx_pk (zK L) 119) (σ := σ) (q := 90) (m := 4) (i := v1) (k := v1.toNatClampNeg) (v := (σ 90 v1.toNatClampNeg)) zd_249_79 rfl (by decide) (zJ_in c7 rfl) rfl rfl]
    rw [zp_ishl (x := 1) (y := (σ 90 v1.toNatClampNeg)) (z := (zJ_shl 1 (σ 90 v1.toNatClampNeg))) zd_249_80 rfl]
    rw [zs_iconst (z := 1) zd_249_81 (by decide)]
    rw [zp_isub (x := (zJ_shl 1 (σ 90 v1.toNatClampNeg))) (y := 1) (z := ((zJ_shl 1 (σ 90 v1.toNatClampNeg)) - 1)) zd_249_82 rfl]
    rw [zp_iand (x := s0) (y := ((zJ_shl 1 (σ 90 v1.toNatClampNeg)) - 1)) (z := (s0 &&& ((zJ_shl 1 (σ 90 v1.toNatClampNeg)) - 1))) zd_249_83 rfl]
    have H := Option.some.inj H
    subst H
    exact zs_ireturn zd_249_84 rfl
  · rw [if_neg c7] at H
    cases H
set_option maxRecDepth 20000 in
theorem zt_M_behindOf_53 {a b L : Nat} {σ : zS} {τ : zT} {v1 : Int32} {v3 : Int32} {v4 : Int32} {o2 : Option Value} {r : Int32} (H : zb_M_behindOf_53 σ v1 v3 v4 = some r) : zx_go 0 249 53 [some (.ref 82), some (.int v1), o2, some (.int v3), some (.int v4)] [] ((119, a, b), zx_pk (zK L) 119, σ, τ, zR) = some (some (.int r), ((119, a, b), zx_pk (zK L) 119, σ, τ, zR)) := by
  unfold zb_M_behindOf_53 at H
  rw [zs_iload (ls := [some (.ref 82), some (.int v1), o2, some (.int v3), some (.int v4)]) zd_249_53 rfl]
  rw [zs_iconst (z := 1) zd_249_55 (by decide)]
  rw [zs_aload_n (ls := [some (.ref 82), some (.int v1), o2, some (.int v3), some (.int v4)]) zd_249_56 rfl]
  rw [zs_getR (n := 119) (K := zx_pk (zK L) 119) (ρ := zR) (c := 12) (k := 30) (q := 82) (p := 95) zd_249_57 rfl rfl rfl (by decide) rfl]
  rw [zs_iload_n (ls := [some (.ref 82), some (.int v1), o2, some (.int v3), some (.int v4)]) zd_249_60 rfl]
  by_cases c6 : 0 ≤ v3 ∧ v3 < 96
  · rw [if_pos c6] at H
    rw [zp_iaload (n := 119) (K := zx_pk (zK L) 119) (σ := σ) (q := 95) (m := 96) (i := v3) (k := v3.toNatClampNeg) (v := (σ 95 v3.toNatClampNeg)) zd_249_61 rfl (by decide) (zJ_in c6 rfl) rfl rfl]
    rw [zp_ishl (x := 1) (y := (σ 95 v3.toNatClampNeg)) (z := (zJ_shl 1 (σ 95 v3.toNatClampNeg))) zd_249_62 rfl]
    rw [zp_ior (x := v4) (y := (zJ_shl 1 (σ 95 v3.toNatClampNeg))) (z := (v4 ||| (zJ_shl 1 (σ 95 v3.toNatClampNeg)))) zd_249_63 rfl]
    rw [zs_goto (t := 69) zd_249_64 rfl]
    exact zt_M_behindOf_69  H
  · rw [if_neg c6] at H
    cases H
set_option maxRecDepth 20000 in
theorem zt_M_behindOf_30 {a b L : Nat} {σ : zS} {τ : zT} {v1 : Int32} {v3 : Int32} {s0 : Int32} {o2 : Option Value} {o4 : Option Value} {r : Int32} (H : zb_M_behindOf_30 σ v1 v3 s0 = some r) : zx_go 0 249 30 [some (.ref 82), some (.int v1), o2, some (.int v3), o4] [.int s0] ((119, a, b), zx_pk (zK L) 119, σ, τ, zR) = some (some (.int r), ((119, a, b), zx_pk (zK L) 119, σ, τ, zR)) := by
  unfold zb_M_behindOf_30 at H
  rw [zs_istore (x := s0) (ls' := [some (.ref 82), some (.int v1), o2, some (.int v3), some (.int s0)]) zd_249_30 (Nat.le_of_ble_eq_true rfl) rfl]
  rw [zs_aload_n (ls := [some (.ref 82), some (.int v1), o2, some (.int v3), some (.int s0)]) zd_249_32 rfl]
  rw [zs_getR (n := 119) (K := zx_pk (zK L) 119) (ρ := zR) (c := 12) (k := 27) (q := 82) (p := 92) zd_249_33 rfl rfl rfl (by decide) rfl]
  rw [zs_iload_n (ls := [some (.ref 82), some (.int v1), o2, some (.int v3), some (.int s0)]) zd_249_36 rfl]
  by_cases c4 : 0 ≤ v3 ∧ v3 < 96
  · rw [if_pos c4] at H
    rw [zp_iaload (n := 119) (K := zx_pk (zK L) 119) (σ := σ) (q := 92) (m := 96) (i := v3) (k := v3.toNatClampNeg) (v := (σ 92 v3.toNatClampNeg)) zd_249_37 rfl (by decide) (zJ_in c4 rfl) rfl rfl]
    rw [zs_iconst (z := 5) zd_249_38 (by decide)]
    by_cases c5 : (σ 92 v3.toNatClampNeg) = 5
    · rw [if_pos c5] at H
      rw [zp_icmp_eq_t (x := (σ 92 v3.toNatClampNeg)) (y := 5) (t := 53) zd_249_39 rfl c5]
      exact zt_M_behindOf_53  H
    · rw [if_neg c5] at H
      rw [zp_icmp_eq_f (x := (σ 92 v3.toNatClampNeg)) (y := 5) (t := 53) zd_249_39 rfl c5]
      rw [zs_aload_n (ls := [some (.ref 82), some (.int v1), o2, some (.int v3), some (.int s0)]) zd_249_42 rfl]
      rw [zs_getR (n := 119) (K := zx_pk (zK L) 119) (ρ := zR) (c := 12) (k := 27) (q := 82) (p := 92) zd_249_43 rfl rfl rfl (by decide) rfl]
      rw [zs_iload_n (ls := [some (.ref 82), some (.int v1), o2, some (.int v3), some (.int s0)]) zd_249_46 rfl]
      by_cases c8 : 0 ≤ v3 ∧ v3 < 96
      · rw [if_pos c8] at H
        rw [zp_iaload (n := 119) (K := zx_pk (zK L) 119) (σ := σ) (q := 92) (m := 96) (i := v3) (k := v3.toNatClampNeg) (v := (σ 92 v3.toNatClampNeg)) zd_249_47 rfl (by decide) (zJ_in c8 rfl) rfl rfl]
        rw [zs_bipush (z := 6) zd_249_48 (by decide)]
        by_cases c9 : ¬ (σ 92 v3.toNatClampNeg) = 6
        · rw [if_pos c9] at H
          rw [zp_icmp_ne_t (x := (σ 92 v3.toNatClampNeg)) (y := 6) (t := 67) zd_249_50 rfl c9]
          rw [zs_iload (ls := [some (.ref 82), some (.int v1), o2, some (.int v3), some (.int s0)]) zd_249_67 rfl]
          exact zt_M_behindOf_69  H
        · rw [if_neg c9] at H
          rw [zp_icmp_ne_f (x := (σ 92 v3.toNatClampNeg)) (y := 6) (t := 67) zd_249_50 rfl c9]
          exact zt_M_behindOf_53  H
      · rw [if_neg c8] at H
        cases H
  · rw [if_neg c4] at H
    cases H
set_option maxRecDepth 20000 in
theorem zt_M_behindOf {a b L : Nat} {σ : zS} {τ : zT} {x1 : Int32} {x2 : Int32} {r : Int32} (H : zf_M_behindOf σ x1 x2 = some r) : zx_go 0 249 0 [some (.ref 82), some (.int x1), some (.int x2), none, none] [] ((119, a, b), zx_pk (zK L) 119, σ, τ, zR) = some (some (.int r), ((119, a, b), zx_pk (zK L) 119, σ, τ, zR)) := by
  unfold zf_M_behindOf at H
  rw [zs_bipush (z := 24) zd_249_0 (by decide)]
  rw [zs_iload_n (ls := [some (.ref 82), some (.int x1), some (.int x2), none, none]) zd_249_2 rfl]
  rw [zp_imul (x := 24) (y := x1) (z := (24 * x1)) zd_249_3 rfl]
  rw [zs_iload_n (ls := [some (.ref 82), some (.int x1), some (.int x2), none, none]) zd_249_4 rfl]
  rw [zp_iadd (x := (24 * x1)) (y := x2) (z := ((24 * x1) + x2)) zd_249_5 rfl]
  rw [zs_istore_n (x := ((24 * x1) + x2)) (ls' := [some (.ref 82), some (.int x1), some (.int x2), some (.int ((24 * x1) + x2)), none]) zd_249_6 (Nat.le_of_ble_eq_true rfl) rfl]
  rw [zs_aload_n (ls := [some (.ref 82), some (.int x1), some (.int x2), some (.int ((24 * x1) + x2)), none]) zd_249_7 rfl]
  rw [zs_getR (n := 119) (K := zx_pk (zK L) 119) (ρ := zR) (c := 12) (k := 27) (q := 82) (p := 92) zd_249_8 rfl rfl rfl (by decide) rfl]
  rw [zs_iload_n (ls := [some (.ref 82), some (.int x1), some (.int x2), some (.int ((24 * x1) + x2)), none]) zd_249_11 rfl]
  by_cases c1 : 0 ≤ ((24 * x1) + x2) ∧ ((24 * x1) + x2) < 96
  · rw [if_pos c1] at H
    rw [zp_iaload (n := 119) (K := zx_pk (zK L) 119) (σ := σ) (q := 92) (m := 96) (i := ((24 * x1) + x2)) (k := ((24 * x1) + x2).toNatClampNeg) (v := (σ 92 ((24 * x1) + x2).toNatClampNeg)) zd_249_12 rfl (by decide) (zJ_in c1 rfl) rfl rfl]
    rw [zs_bipush (z := 13) zd_249_13 (by decide)]
    by_cases c2 : ¬ (σ 92 ((24 * x1) + x2).toNatClampNeg) = 13
    · rw [if_pos c2] at H
      rw [zp_icmp_ne_t (x := (σ 92 ((24 * x1) + x2).toNatClampNeg)) (y := 13) (t := 22) zd_249_15 rfl c2]
      rw [zs_iconst (z := 1) zd_249_22 (by decide)]
      rw [zs_aload_n (ls := [some (.ref 82), some (.int x1), some (.int x2), some (.int ((24 * x1) + x2)), none]) zd_249_23 rfl]
      rw [zs_getR (n := 119) (K := zx_pk (zK L) 119) (ρ := zR) (c := 12) (k := 29) (q := 82) (p := 94) zd_249_24 rfl rfl rfl (by decide) rfl]
      rw [zs_iload_n (ls := [some (.ref 82), some (.int x1), some (.int x2), some (.int ((24 * x1) + x2)), none]) zd_249_27 rfl]
      by_cases c3 : 0 ≤ ((24 * x1) + x2) ∧ ((24 * x1) + x2) < 96
      · rw [if_pos c3] at H
        rw [zp_iaload (n := 119) (K := zx_pk (zK L) 119) (σ := σ) (q := 94) (m := 96) (i := ((24 * x1) + x2)) (k := ((24 * x1) + x2).toNatClampNeg) (v := (σ 94 ((24 * x1) + x2).toNatClampNeg)) zd_249_28 rfl (by decide) (zJ_in c3 rfl) rfl rfl]
        rw [zp_ishl (x := 1) (y := (σ 94 ((24 * x1) + x2).toNatClampNeg)) (z := (zJ_shl 1 (σ 94 ((24 * x1) + x2).toNatClampNeg))) zd_249_29 rfl]
        exact zt_M_behindOf_30  H
      · rw [if_neg c3] at H
        cases H
    · rw [if_neg c2] at H
      rw [zp_icmp_ne_f (x := (σ 92 ((24 * x1) + x2).toNatClampNeg)) (y := 13) (t := 22) zd_249_15 rfl c2]
      rw [zs_iconst (z := 0) zd_249_18 (by decide)]
      rw [zs_goto (t := 30) zd_249_19 rfl]
      exact zt_M_behindOf_30  H
  · rw [if_neg c1] at H
    cases H
set_option maxRecDepth 20000 in
theorem zt_M_reached_79 {a b L N : Nat} {k6 : zS → Int32 → Int32 → Int32 → Int32 → Option (Int32)} (hk6 : ∀ {σ : zS} {τ : zT} {v1 : Int32} {v3 : Int32} {v4 : Int32} {v5 : Int32} {o2 : Option Value} {o6 : Option Value} {o7 : Option Value} {r : Int32}, k6 σ v1 v3 v4 v5 = some r → zx_go 1 250 6 [some (.ref 82), some (.int v1), o2, some (.int v3), some (.int v4), some (.int v5), o6, o7] [] ((119, a, b), zx_pk (zK L) 119, σ, τ, zR) = some (some (.int r), ((119, a, b), zx_pk (zK L) 119, σ, τ, zR))) {σ : zS} {τ : zT} {v1 : Int32} {v3 : Int32} {v4 : Int32} {s0 : Int32} {o2 : Option Value} {o5 : Option Value} {o6 : Option Value} {o7 : Option Value} {r : Int32} (H : zb_M_reached_79 k6 N σ v1 v3 v4 s0 = some r) : zx_go 1 250 79 [some (.ref 82), some (.int v1), o2, some (.int v3), some (.int v4), o5, o6, o7] [.int s0] ((119, a, b), zx_pk (zK L) 119, σ, τ, zR) = some (some (.int r), ((119, a, b), zx_pk (zK L) 119, σ, τ, zR)) := by
  unfold zb_M_reached_79 at H
  rw [zs_istore (x := s0) (ls' := [some (.ref 82), some (.int v1), o2, some (.int v3), some (.int v4), some (.int s0), o6, o7]) zd_250_79 (Nat.le_of_ble_eq_true rfl) rfl]
  rw [zs_goto (t := 6) zd_250_81 rfl]
  exact hk6 H
set_option maxRecDepth 20000 in
theorem zt_M_reached_61 {a b L N : Nat} {k18 : zS → Int32 → Int32 → Int32 → Int32 → Int32 → Option (Int32)} (hk18 : ∀ {σ : zS} {τ : zT} {v1 : Int32} {v3 : Int32} {v4 : Int32} {v6 : Int32} {v7 : Int32} {o2 : Option Value} {o5 : Option Value} {r : Int32}, k18 σ v1 v3 v4 v6 v7 = some r → zx_go 1 250 18 [some (.ref 82), some (.int v1), o2, some (.int v3), some (.int v4), o5, some (.int v6), some (.int v7)] [] ((119, a, b), zx_pk (zK L) 119, σ, τ, zR) = some (some (.int r), ((119, a, b), zx_pk (zK L) 119, σ, τ, zR))) {σ : zS} {τ : zT} {v1 : Int32} {v3 : Int32} {v4 : Int32} {v6 : Int32} {v7 : Int32} {o2 : Option Value} {o5 : Option Value} {r : Int32} (H : zb_M_reached_61 k18 N σ v1 v3 v4 v6 v7 = some r) : zx_go 1 250 61 [some (.ref 82), some (.int v1), o2, some (.int v3), some (.int v4), o5, some (.int v6), some (.int v7)] [] ((119, a, b), zx_pk (zK L) 119, σ, τ, zR) = some (some (.int r), ((119, a, b), zx_pk (zK L) 119, σ, τ, zR)) := by
  unfold zb_M_reached_61 at H
  rw [zs_iinc (ls := [some (.ref 82), some (.int v1), o2, some (.int v3), some (.int v4), o5, some (.int v6), some (.int v7)]) (x := v7) (z := (v7 + 1)) (ls' := [some (.ref 82), some (.int v1), o2, some (.int v3), some (.int v4), o5, some (.int v6), some (.int (v7 + 1))]) zd_250_61 rfl rfl rfl]
  rw [zs_goto (t := 18) zd_250_64 rfl]
  exact hk18 H
set_option maxRecDepth 20000 in
theorem zt_M_reached_18 {a b L N : Nat} {k6 : zS → Int32 → Int32 → Int32 → Int32 → Option (Int32)} (hk6 : ∀ {σ : zS} {τ : zT} {v1 : Int32} {v3 : Int32} {v4 : Int32} {v5 : Int32} {o2 : Option Value} {o6 : Option Value} {o7 : Option Value} {r : Int32}, k6 σ v1 v3 v4 v5 = some r → zx_go 1 250 6 [some (.ref 82), some (.int v1), o2, some (.int v3), some (.int v4), some (.int v5), o6, o7] [] ((119, a, b), zx_pk (zK L) 119, σ, τ, zR) = some (some (.int r), ((119, a, b), zx_pk (zK L) 119, σ, τ, zR))) : ∀ {n : Nat} {σ : zS} {τ : zT} {v1 : Int32} {v3 : Int32} {v4 : Int32} {v6 : Int32} {v7 : Int32} {o2 : Option Value} {o5 : Option Value} {r : Int32}, zb_M_reached_18 k6 N n σ v1 v3 v4 v6 v7 = some r → zx_go 1 250 18 [some (.ref 82), some (.int v1), o2, some (.int v3), some (.int v4), o5, some (.int v6), some (.int v7)] [] ((119, a, b), zx_pk (zK L) 119, σ, τ, zR) = some (some (.int r), ((119, a, b), zx_pk (zK L) 119, σ, τ, zR)) := by
  intro n
  induction n with
  | zero =>
    intro _ _ _ _ _ _ _ _ _ _ H
    cases H
  | succ n ih =>
    intro σ τ v1 v3 v4 v6 v7 o2 o5 r H
    rw [zb_M_reached_18] at H
    rw [zs_iload (ls := [some (.ref 82), some (.int v1), o2, some (.int v3), some (.int v4), o5, some (.int v6), some (.int v7)]) zd_250_18 rfl]
    rw [zs_aload_n (ls := [some (.ref 82), some (.int v1), o2, some (.int v3), some (.int v4), o5, some (.int v6), some (.int v7)]) zd_250_20 rfl]
    rw [zs_getR (n := 119) (K := zx_pk (zK L) 119) (ρ := zR) (c := 12) (k := 24) (q := 82) (p := 90) zd_250_21 rfl rfl rfl (by decide) rfl]
    rw [zs_iload_n (ls := [some (.ref 82), some (.int v1), o2, some (.int v3), some (.int v4), o5, some (.int v6), some (.int v7)]) zd_250_24 rfl]
    by_cases c2 : 0 ≤ v1 ∧ v1 < 4
    · rw [if_pos c2] at H
      rw [zp_iaload (n := 119) (K := zx_pk (zK L) 119) (σ := σ) (q := 90) (m := 4) (i := v1) (k := v1.toNatClampNeg) (v := (σ 90 v1.toNatClampNeg)) zd_250_25 rfl (by decide) (zJ_in c2 rfl) rfl rfl]
      by_cases c3 : (σ 90 v1.toNatClampNeg) ≤ v7
      · rw [if_pos c3] at H
        rw [zp_icmp_ge_t (x := v7) (y := (σ 90 v1.toNatClampNeg)) (t := 67) zd_250_26 rfl c3]
        rw [zs_iload (ls := [some (.ref 82), some (.int v1), o2, some (.int v3), some (.int v4), o5, some (.int v6), some (.int v7)]) zd_250_67 rfl]
        rw [zs_iload (ls := [some (.ref 82), some (.int v1), o2, some (.int v3), some (.int v4), o5, some (.int v6), some (.int v7)]) zd_250_69 rfl]
        by_cases c4 : v4 = v6
        · rw [if_pos c4] at H
          rw [zp_icmp_eq_t (x := v4) (y := v6) (t := 78) zd_250_71 rfl c4]
          rw [zs_iconst (z := 0) zd_250_78 (by decide)]
          exact zt_M_reached_79 (hk6 := hk6) H
        · rw [if_neg c4] at H
          rw [zp_icmp_eq_f (x := v4) (y := v6) (t := 78) zd_250_71 rfl c4]
          rw [zs_iconst (z := 1) zd_250_74 (by decide)]
          rw [zs_goto (t := 79) zd_250_75 rfl]
          exact zt_M_reached_79 (hk6 := hk6) H
      · rw [if_neg c3] at H
        rw [zp_icmp_ge_f (x := v7) (y := (σ 90 v1.toNatClampNeg)) (t := 67) zd_250_26 rfl c3]
        rw [zs_iload (ls := [some (.ref 82), some (.int v1), o2, some (.int v3), some (.int v4), o5, some (.int v6), some (.int v7)]) zd_250_29 rfl]
        rw [zs_iload (ls := [some (.ref 82), some (.int v1), o2, some (.int v3), some (.int v4), o5, some (.int v6), some (.int v7)]) zd_250_31 rfl]
        rw [zp_ishr (x := v4) (y := v7) (z := (zJ_shr v4 v7)) zd_250_33 rfl]
        rw [zs_iconst (z := 1) zd_250_34 (by decide)]
        rw [zp_iand (x := (zJ_shr v4 v7)) (y := 1) (z := ((zJ_shr v4 v7) &&& 1)) zd_250_35 rfl]
        rw [zs_iconst (z := 1) zd_250_36 (by decide)]
        by_cases c5 : ¬ ((zJ_shr v4 v7) &&& 1) = 1
        · rw [if_pos c5] at H
          rw [zp_icmp_ne_t (x := ((zJ_shr v4 v7) &&& 1)) (y := 1) (t := 61) zd_250_37 rfl c5]
          exact zt_M_reached_61 (hk18 := ih) H
        · rw [if_neg c5] at H
          rw [zp_icmp_ne_f (x := ((zJ_shr v4 v7) &&& 1)) (y := 1) (t := 61) zd_250_37 rfl c5]
          rw [zs_iload_n (ls := [some (.ref 82), some (.int v1), o2, some (.int v3), some (.int v4), o5, some (.int v6), some (.int v7)]) zd_250_40 rfl]
          rw [zs_iload (ls := [some (.ref 82), some (.int v1), o2, some (.int v3), some (.int v4), o5, some (.int v6), some (.int v7)]) zd_250_41 rfl]
          rw [zp_ishr (x := v3) (y := v7) (z := (zJ_shr v3 v7)) zd_250_43 rfl]
          rw [zs_iconst (z := 1) zd_250_44 (by decide)]
          rw [zp_iand (x := (zJ_shr v3 v7)) (y := 1) (z := ((zJ_shr v3 v7) &&& 1)) zd_250_45 rfl]
          by_cases c6 : ¬ ((zJ_shr v3 v7) &&& 1) = 0
          · rw [if_pos c6] at H
            rw [zp_if_ne_t (x := ((zJ_shr v3 v7) &&& 1)) (t := 61) zd_250_46 rfl c6]
            exact zt_M_reached_61 (hk18 := ih) H
          · rw [if_neg c6] at H
            rw [zp_if_ne_f (x := ((zJ_shr v3 v7) &&& 1)) (t := 61) zd_250_46 rfl c6]
            rw [zs_iload (ls := [some (.ref 82), some (.int v1), o2, some (.int v3), some (.int v4), o5, some (.int v6), some (.int v7)]) zd_250_49 rfl]
            rw [zs_aload_n (ls := [some (.ref 82), some (.int v1), o2, some (.int v3), some (.int v4), o5, some (.int v6), some (.int v7)]) zd_250_51 rfl]
            rw [zs_iload_n (ls := [some (.ref 82), some (.int v1), o2, some (.int v3), some (.int v4), o5, some (.int v6), some (.int v7)]) zd_250_52 rfl]
            rw [zs_iload (ls := [some (.ref 82), some (.int v1), o2, some (.int v3), some (.int v4), o5, some (.int v6), some (.int v7)]) zd_250_53 rfl]
            obtain ⟨r7, hr7, H⟩ := Option.bind_eq_some_iff.mp H
            rw [zp_callVi (x := r7) (st := [.int v7, .int v1, .ref 82, .int v4]) (as := [.ref 82, .int v1, .int v7]) (rest := [.int v4]) (e := 0) zd_250_55 rfl (by decide +kernel) (by decide) rfl rfl (Nat.le_of_ble_eq_true rfl) (zx_rcb_ok rfl (show 82 < 119 by decide)) (Nat.le_of_ble_eq_true rfl) rfl (by decide) (zt_M_behindOf hr7)]
            rw [zp_ior (x := v4) (y := r7) (z := (v4 ||| r7)) zd_250_58 rfl]
            rw [zs_istore (x := (v4 ||| r7)) (ls' := [some (.ref 82), some (.int v1), o2, some (.int v3), some (.int (v4 ||| r7)), o5, some (.int v6), some (.int v7)]) zd_250_59 (Nat.le_of_ble_eq_true rfl) rfl]
            exact zt_M_reached_61 (hk18 := ih) H
    · rw [if_neg c2] at H
      cases H
set_option maxRecDepth 20000 in
theorem zt_M_reached_6 {a b L N : Nat} : ∀ {n : Nat} {σ : zS} {τ : zT} {v1 : Int32} {v3 : Int32} {v4 : Int32} {v5 : Int32} {o2 : Option Value} {o6 : Option Value} {o7 : Option Value} {r : Int32}, zb_M_reached_6 N n σ v1 v3 v4 v5 = some r → zx_go 1 250 6 [some (.ref 82), some (.int v1), o2, some (.int v3), some (.int v4), some (.int v5), o6, o7] [] ((119, a, b), zx_pk (zK L) 119, σ, τ, zR) = some (some (.int r), ((119, a, b), zx_pk (zK L) 119, σ, τ, zR)) := by
  intro n
  induction n with
  | zero =>
    intro _ _ _ _ _ _ _ _ _ _ H
    cases H
  | succ n ih =>
    intro σ τ v1 v3 v4 v5 o2 o6 o7 r H
    rw [zb_M_reached_6] at H
    rw [zs_iload (ls := [some (.ref 82), some (.int v1), o2, some (.int v3), some (.int v4), some (.int v5), o6, o7]) zd_250_6 rfl]
    by_cases c1 : v5 = 0
    · rw [if_pos c1] at H
      rw [zp_if_eq_t (x := v5) (t := 84) zd_250_8 rfl c1]
      rw [zs_iload (ls := [some (.ref 82), some (.int v1), o2, some (.int v3), some (.int v4), some (.int v5), o6, o7]) zd_250_84 rfl]
      have H := Option.some.inj H
      subst H
      exact zs_ireturn zd_250_86 rfl
    · rw [if_neg c1] at H
      rw [zp_if_eq_f (x := v5) (t := 84) zd_250_8 rfl c1]
      rw [zs_iload (ls := [some (.ref 82), some (.int v1), o2, some (.int v3), some (.int v4), some (.int v5), o6, o7]) zd_250_11 rfl]
      rw [zs_istore (x := v4) (ls' := [some (.ref 82), some (.int v1), o2, some (.int v3), some (.int v4), some (.int v5), some (.int v4), o7]) zd_250_13 (Nat.le_of_ble_eq_true rfl) rfl]
      rw [zs_iconst (z := 0) zd_250_15 (by decide)]
      rw [zs_istore (x := 0) (ls' := [some (.ref 82), some (.int v1), o2, some (.int v3), some (.int v4), some (.int v5), some (.int v4), some (.int 0)]) zd_250_16 (Nat.le_of_ble_eq_true rfl) rfl]
      exact zt_M_reached_18 (hk6 := ih) H
set_option maxRecDepth 20000 in
theorem zt_M_reached {a b L N : Nat} {σ : zS} {τ : zT} {x1 : Int32} {x2 : Int32} {x3 : Int32} {r : Int32} (H : zf_M_reached N σ x1 x2 x3 = some r) : zx_go 1 250 0 [some (.ref 82), some (.int x1), some (.int x2), some (.int x3), none, none, none, none] [] ((119, a, b), zx_pk (zK L) 119, σ, τ, zR) = some (some (.int r), ((119, a, b), zx_pk (zK L) 119, σ, τ, zR)) := by
  unfold zf_M_reached at H
  rw [zs_iload_n (ls := [some (.ref 82), some (.int x1), some (.int x2), some (.int x3), none, none, none, none]) zd_250_0 rfl]
  rw [zs_istore (x := x2) (ls' := [some (.ref 82), some (.int x1), some (.int x2), some (.int x3), some (.int x2), none, none, none]) zd_250_1 (Nat.le_of_ble_eq_true rfl) rfl]
  rw [zs_iconst (z := 1) zd_250_3 (by decide)]
  rw [zs_istore (x := 1) (ls' := [some (.ref 82), some (.int x1), some (.int x2), some (.int x3), some (.int x2), some (.int 1), none, none]) zd_250_4 (Nat.le_of_ble_eq_true rfl) rfl]
  exact zt_M_reached_6  H
set_option maxRecDepth 20000 in
theorem zt_M_isApart_201 {a b L N : Nat} {σ : zS} {τ : zT} {o0 : Option Value} {o1 : Option Value} {o2 : Option Value} {o3 : Option Value} {o4 : Option Value} {o5 : Option Value} {o6 : Option Value} {o7 : Option Value} {o8 : Option Value} {o9 : Option Value} {r : Int32} (H : zb_M_isApart_201 N σ = some r) : zx_go 2 248 201 [o0, o1, o2, o3, o4, o5, o6, o7, o8, o9] [] ((119, a, b), zx_pk (zK L) 119, σ, τ, zR) = some (some (.int r), ((119, a, b), zx_pk (zK L) 119, σ, τ, zR)) := by
  unfold zb_M_isApart_201 at H
  rw [zs_iconst (z := 1) zd_248_201 (by decide)]
  rw [zs_goto (t := 206) zd_248_202 rfl]
  have H := Option.some.inj H
  subst H
  exact zs_ireturn zd_248_206 (by decide +kernel)
set_option maxRecDepth 20000 in
theorem zt_M_isApart_186 {a b L N : Nat} {σ : zS} {τ : zT} {v2 : Int32} {v3 : Int32} {v7 : Int32} {o1 : Option Value} {o4 : Option Value} {o5 : Option Value} {o6 : Option Value} {o8 : Option Value} {o9 : Option Value} {r : Int32} (H : zb_M_isApart_186 N σ v2 v3 v7 = some r) : zx_go 2 248 186 [some (.ref 82), o1, some (.int v2), some (.int v3), o4, o5, o6, some (.int v7), o8, o9] [] ((119, a, b), zx_pk (zK L) 119, σ, τ, zR) = some (some (.int r), ((119, a, b), zx_pk (zK L) 119, σ, τ, zR)) := by
  unfold zb_M_isApart_186 at H
  rw [zs_aload_n (ls := [some (.ref 82), o1, some (.int v2), some (.int v3), o4, o5, o6, some (.int v7), o8, o9]) zd_248_186 rfl]
  rw [zs_iload_n (ls := [some (.ref 82), o1, some (.int v2), some (.int v3), o4, o5, o6, some (.int v7), o8, o9]) zd_248_187 rfl]
  rw [zs_iconst (z := 1) zd_248_188 (by decide)]
  rw [zs_iload (ls := [some (.ref 82), o1, some (.int v2), some (.int v3), o4, o5, o6, some (.int v7), o8, o9]) zd_248_189 rfl]
  obtain ⟨r3, hr3, H⟩ := Option.bind_eq_some_iff.mp H
  rw [zp_callVi (x := r3) (st := [.int v7, .int 1, .int v2, .ref 82]) (as := [.ref 82, .int v2, .int 1, .int v7]) (rest := []) (e := 1) zd_248_191 rfl (by decide +kernel) (by decide) rfl rfl (Nat.le_of_ble_eq_true rfl) (zx_rcb_ok rfl (show 82 < 119 by decide)) (Nat.le_of_ble_eq_true rfl) rfl (by decide) (zt_M_reached hr3)]
  rw [zs_iload_n (ls := [some (.ref 82), o1, some (.int v2), some (.int v3), o4, o5, o6, some (.int v7), o8, o9]) zd_248_194 rfl]
  rw [zp_ishr (x := r3) (y := v3) (z := (zJ_shr r3 v3)) zd_248_195 rfl]
  rw [zs_iconst (z := 1) zd_248_196 (by decide)]
  rw [zp_iand (x := (zJ_shr r3 v3)) (y := 1) (z := ((zJ_shr r3 v3) &&& 1)) zd_248_197 rfl]
  by_cases c4 : ¬ ((zJ_shr r3 v3) &&& 1) = 0
  · rw [if_pos c4] at H
    rw [zp_if_ne_t (x := ((zJ_shr r3 v3) &&& 1)) (t := 205) zd_248_198 rfl c4]
    rw [zs_iconst (z := 0) zd_248_205 (by decide)]
    have H := Option.some.inj H
    subst H
    exact zs_ireturn zd_248_206 (by decide +kernel)
  · rw [if_neg c4] at H
    rw [zp_if_ne_f (x := ((zJ_shr r3 v3) &&& 1)) (t := 205) zd_248_198 rfl c4]
    exact zt_M_isApart_201  H
set_option maxRecDepth 20000 in
theorem zt_M_isApart_165 {a b L N : Nat} {k15 : zS → Int32 → Int32 → Int32 → Int32 → Int32 → Int32 → Int32 → Int32 → Option (Int32)} (hk15 : ∀ {σ : zS} {τ : zT} {v1 : Int32} {v2 : Int32} {v3 : Int32} {v4 : Int32} {v5 : Int32} {v6 : Int32} {v7 : Int32} {v8 : Int32} {o9 : Option Value} {r : Int32}, k15 σ v1 v2 v3 v4 v5 v6 v7 v8 = some r → zx_go 2 248 15 [some (.ref 82), some (.int v1), some (.int v2), some (.int v3), some (.int v4), some (.int v5), some (.int v6), some (.int v7), some (.int v8), o9] [] ((119, a, b), zx_pk (zK L) 119, σ, τ, zR) = some (some (.int r), ((119, a, b), zx_pk (zK L) 119, σ, τ, zR))) {σ : zS} {τ : zT} {v1 : Int32} {v2 : Int32} {v3 : Int32} {v4 : Int32} {v5 : Int32} {v6 : Int32} {v7 : Int32} {v8 : Int32} {o9 : Option Value} {r : Int32} (H : zb_M_isApart_165 k15 N σ v1 v2 v3 v4 v5 v6 v7 v8 = some r) : zx_go 2 248 165 [some (.ref 82), some (.int v1), some (.int v2), some (.int v3), some (.int v4), some (.int v5), some (.int v6), some (.int v7), some (.int v8), o9] [] ((119, a, b), zx_pk (zK L) 119, σ, τ, zR) = some (some (.int r), ((119, a, b), zx_pk (zK L) 119, σ, τ, zR)) := by
  unfold zb_M_isApart_165 at H
  rw [zs_iinc (ls := [some (.ref 82), some (.int v1), some (.int v2), some (.int v3), some (.int v4), some (.int v5), some (.int v6), some (.int v7), some (.int v8), o9]) (x := v8) (z := (v8 + 1)) (ls' := [some (.ref 82), some (.int v1), some (.int v2), some (.int v3), some (.int v4), some (.int v5), some (.int v6), some (.int v7), some (.int (v8 + 1)), o9]) zd_248_165 rfl rfl rfl]
  rw [zs_goto (t := 15) zd_248_168 rfl]
  exact hk15 H
set_option maxRecDepth 20000 in
theorem zt_M_isApart_135 {a b L N : Nat} {k15 : zS → Int32 → Int32 → Int32 → Int32 → Int32 → Int32 → Int32 → Int32 → Option (Int32)} (hk15 : ∀ {σ : zS} {τ : zT} {v1 : Int32} {v2 : Int32} {v3 : Int32} {v4 : Int32} {v5 : Int32} {v6 : Int32} {v7 : Int32} {v8 : Int32} {o9 : Option Value} {r : Int32}, k15 σ v1 v2 v3 v4 v5 v6 v7 v8 = some r → zx_go 2 248 15 [some (.ref 82), some (.int v1), some (.int v2), some (.int v3), some (.int v4), some (.int v5), some (.int v6), some (.int v7), some (.int v8), o9] [] ((119, a, b), zx_pk (zK L) 119, σ, τ, zR) = some (some (.int r), ((119, a, b), zx_pk (zK L) 119, σ, τ, zR))) {σ : zS} {τ : zT} {v1 : Int32} {v2 : Int32} {v3 : Int32} {v4 : Int32} {v5 : Int32} {v6 : Int32} {v7 : Int32} {v8 : Int32} {v9 : Int32} {r : Int32} (H : zb_M_isApart_135 k15 N σ v1 v2 v3 v4 v5 v6 v7 v8 v9 = some r) : zx_go 2 248 135 [some (.ref 82), some (.int v1), some (.int v2), some (.int v3), some (.int v4), some (.int v5), some (.int v6), some (.int v7), some (.int v8), some (.int v9)] [] ((119, a, b), zx_pk (zK L) 119, σ, τ, zR) = some (some (.int r), ((119, a, b), zx_pk (zK L) 119, σ, τ, zR)) := by
  unfold zb_M_isApart_135 at H
  rw [zs_aload_n (ls := [some (.ref 82), some (.int v1), some (.int v2), some (.int v3), some (.int v4), some (.int v5), some (.int v6), some (.int v7), some (.int v8), some (.int v9)]) zd_248_135 rfl]
  rw [zs_getR (n := 119) (K := zx_pk (zK L) 119) (ρ := zR) (c := 12) (k := 27) (q := 82) (p := 92) zd_248_136 rfl rfl rfl (by decide) rfl]
  rw [zs_iload (ls := [some (.ref 82), some (.int v1), some (.int v2), some (.int v3), some (.int v4), some (.int v5), some (.int v6), some (.int v7), some (.int v8), some (.int v9)]) zd_248_139 rfl]
  by_cases c13 : 0 ≤ v8 ∧ v8 < 96
  · rw [if_pos c13] at H
    rw [zp_iaload (n := 119) (K := zx_pk (zK L) 119) (σ := σ) (q := 92) (m := 96) (i := v8) (k := v8.toNatClampNeg) (v := (σ 92 v8.toNatClampNeg)) zd_248_141 rfl (by decide) (zJ_in c13 rfl) rfl rfl]
    rw [zs_bipush (z := 11) zd_248_142 (by decide)]
    by_cases c14 : ¬ (σ 92 v8.toNatClampNeg) = 11
    · rw [if_pos c14] at H
      rw [zp_icmp_ne_t (x := (σ 92 v8.toNatClampNeg)) (y := 11) (t := 165) zd_248_144 rfl c14]
      exact zt_M_isApart_165 (hk15 := hk15) H
    · rw [if_neg c14] at H
      rw [zp_icmp_ne_f (x := (σ 92 v8.toNatClampNeg)) (y := 11) (t := 165) zd_248_144 rfl c14]
      rw [zs_iload (ls := [some (.ref 82), some (.int v1), some (.int v2), some (.int v3), some (.int v4), some (.int v5), some (.int v6), some (.int v7), some (.int v8), some (.int v9)]) zd_248_147 rfl]
      rw [zs_iload_n (ls := [some (.ref 82), some (.int v1), some (.int v2), some (.int v3), some (.int v4), some (.int v5), some (.int v6), some (.int v7), some (.int v8), some (.int v9)]) zd_248_149 rfl]
      by_cases c15 : ¬ v9 = v2
      · rw [if_pos c15] at H
        rw [zp_icmp_ne_t (x := v9) (y := v2) (t := 165) zd_248_150 rfl c15]
        exact zt_M_isApart_165 (hk15 := hk15) H
      · rw [if_neg c15] at H
        rw [zp_icmp_ne_f (x := v9) (y := v2) (t := 165) zd_248_150 rfl c15]
        rw [zs_iload (ls := [some (.ref 82), some (.int v1), some (.int v2), some (.int v3), some (.int v4), some (.int v5), some (.int v6), some (.int v7), some (.int v8), some (.int v9)]) zd_248_153 rfl]
        rw [zs_iconst (z := 1) zd_248_155 (by decide)]
        rw [zs_iload (ls := [some (.ref 82), some (.int v1), some (.int v2), some (.int v3), some (.int v4), some (.int v5), some (.int v6), some (.int v7), some (.int v8), some (.int v9)]) zd_248_156 rfl]
        rw [zs_bipush (z := 24) zd_248_158 (by decide)]
        rw [zp_irem (x := v8) (y := 24) (z := (zJ_rem v8 24)) zd_248_160 (by decide) rfl]
        rw [zp_ishl (x := 1) (y := (zJ_rem v8 24)) (z := (zJ_shl 1 (zJ_rem v8 24))) zd_248_161 rfl]
        rw [zp_ior (x := v7) (y := (zJ_shl 1 (zJ_rem v8 24))) (z := (v7 ||| (zJ_shl 1 (zJ_rem v8 24)))) zd_248_162 rfl]
        rw [zs_istore (x := (v7 ||| (zJ_shl 1 (zJ_rem v8 24)))) (ls' := [some (.ref 82), some (.int v1), some (.int v2), some (.int v3), some (.int v4), some (.int v5), some (.int v6), some (.int (v7 ||| (zJ_shl 1 (zJ_rem v8 24)))), some (.int v8), some (.int v9)]) zd_248_163 (Nat.le_of_ble_eq_true rfl) rfl]
        exact zt_M_isApart_165 (hk15 := hk15) H
  · rw [if_neg c13] at H
    cases H
set_option maxRecDepth 20000 in
theorem zt_M_isApart_133 {a b L N : Nat} {k15 : zS → Int32 → Int32 → Int32 → Int32 → Int32 → Int32 → Int32 → Int32 → Option (Int32)} (hk15 : ∀ {σ : zS} {τ : zT} {v1 : Int32} {v2 : Int32} {v3 : Int32} {v4 : Int32} {v5 : Int32} {v6 : Int32} {v7 : Int32} {v8 : Int32} {o9 : Option Value} {r : Int32}, k15 σ v1 v2 v3 v4 v5 v6 v7 v8 = some r → zx_go 2 248 15 [some (.ref 82), some (.int v1), some (.int v2), some (.int v3), some (.int v4), some (.int v5), some (.int v6), some (.int v7), some (.int v8), o9] [] ((119, a, b), zx_pk (zK L) 119, σ, τ, zR) = some (some (.int r), ((119, a, b), zx_pk (zK L) 119, σ, τ, zR))) {σ : zS} {τ : zT} {v1 : Int32} {v2 : Int32} {v3 : Int32} {v4 : Int32} {v5 : Int32} {v7 : Int32} {v8 : Int32} {v9 : Int32} {s0 : Int32} {o6 : Option Value} {r : Int32} (H : zb_M_isApart_133 k15 N σ v1 v2 v3 v4 v5 v7 v8 v9 s0 = some r) : zx_go 2 248 133 [some (.ref 82), some (.int v1), some (.int v2), some (.int v3), some (.int v4), some (.int v5), o6, some (.int v7), some (.int v8), some (.int v9)] [.int s0] ((119, a, b), zx_pk (zK L) 119, σ, τ, zR) = some (some (.int r), ((119, a, b), zx_pk (zK L) 119, σ, τ, zR)) := by
  unfold zb_M_isApart_133 at H
  rw [zs_istore (x := s0) (ls' := [some (.ref 82), some (.int v1), some (.int v2), some (.int v3), some (.int v4), some (.int v5), some (.int s0), some (.int v7), some (.int v8), some (.int v9)]) zd_248_133 (Nat.le_of_ble_eq_true rfl) rfl]
  exact zt_M_isApart_135 (hk15 := hk15) H
set_option maxRecDepth 20000 in
theorem zt_M_isApart_132 {a b L N : Nat} {k15 : zS → Int32 → Int32 → Int32 → Int32 → Int32 → Int32 → Int32 → Int32 → Option (Int32)} (hk15 : ∀ {σ : zS} {τ : zT} {v1 : Int32} {v2 : Int32} {v3 : Int32} {v4 : Int32} {v5 : Int32} {v6 : Int32} {v7 : Int32} {v8 : Int32} {o9 : Option Value} {r : Int32}, k15 σ v1 v2 v3 v4 v5 v6 v7 v8 = some r → zx_go 2 248 15 [some (.ref 82), some (.int v1), some (.int v2), some (.int v3), some (.int v4), some (.int v5), some (.int v6), some (.int v7), some (.int v8), o9] [] ((119, a, b), zx_pk (zK L) 119, σ, τ, zR) = some (some (.int r), ((119, a, b), zx_pk (zK L) 119, σ, τ, zR))) {σ : zS} {τ : zT} {v1 : Int32} {v2 : Int32} {v3 : Int32} {v4 : Int32} {v5 : Int32} {v7 : Int32} {v8 : Int32} {v9 : Int32} {o6 : Option Value} {r : Int32} (H : zb_M_isApart_132 k15 N σ v1 v2 v3 v4 v5 v7 v8 v9 = some r) : zx_go 2 248 132 [some (.ref 82), some (.int v1), some (.int v2), some (.int v3), some (.int v4), some (.int v5), o6, some (.int v7), some (.int v8), some (.int v9)] [] ((119, a, b), zx_pk (zK L) 119, σ, τ, zR) = some (some (.int r), ((119, a, b), zx_pk (zK L) 119, σ, τ, zR)) := by
  unfold zb_M_isApart_132 at H
  rw [zs_iconst (z := 0) zd_248_132 (by decide)]
  exact zt_M_isApart_133 (hk15 := hk15) H
set_option maxRecDepth 20000 in
theorem zt_M_isApart_128 {a b L N : Nat} {k15 : zS → Int32 → Int32 → Int32 → Int32 → Int32 → Int32 → Int32 → Int32 → Option (Int32)} (hk15 : ∀ {σ : zS} {τ : zT} {v1 : Int32} {v2 : Int32} {v3 : Int32} {v4 : Int32} {v5 : Int32} {v6 : Int32} {v7 : Int32} {v8 : Int32} {o9 : Option Value} {r : Int32}, k15 σ v1 v2 v3 v4 v5 v6 v7 v8 = some r → zx_go 2 248 15 [some (.ref 82), some (.int v1), some (.int v2), some (.int v3), some (.int v4), some (.int v5), some (.int v6), some (.int v7), some (.int v8), o9] [] ((119, a, b), zx_pk (zK L) 119, σ, τ, zR) = some (some (.int r), ((119, a, b), zx_pk (zK L) 119, σ, τ, zR))) {σ : zS} {τ : zT} {v1 : Int32} {v2 : Int32} {v3 : Int32} {v4 : Int32} {v5 : Int32} {v7 : Int32} {v8 : Int32} {v9 : Int32} {o6 : Option Value} {r : Int32} (H : zb_M_isApart_128 k15 N σ v1 v2 v3 v4 v5 v7 v8 v9 = some r) : zx_go 2 248 128 [some (.ref 82), some (.int v1), some (.int v2), some (.int v3), some (.int v4), some (.int v5), o6, some (.int v7), some (.int v8), some (.int v9)] [] ((119, a, b), zx_pk (zK L) 119, σ, τ, zR) = some (some (.int r), ((119, a, b), zx_pk (zK L) 119, σ, τ, zR)) := by
  unfold zb_M_isApart_128 at H
  rw [zs_iconst (z := 1) zd_248_128 (by decide)]
  rw [zs_goto (t := 133) zd_248_129 rfl]
  exact zt_M_isApart_133 (hk15 := hk15) H
set_option maxRecDepth 20000 in
theorem zt_M_isApart_91 {a b L N : Nat} {k15 : zS → Int32 → Int32 → Int32 → Int32 → Int32 → Int32 → Int32 → Int32 → Option (Int32)} (hk15 : ∀ {σ : zS} {τ : zT} {v1 : Int32} {v2 : Int32} {v3 : Int32} {v4 : Int32} {v5 : Int32} {v6 : Int32} {v7 : Int32} {v8 : Int32} {o9 : Option Value} {r : Int32}, k15 σ v1 v2 v3 v4 v5 v6 v7 v8 = some r → zx_go 2 248 15 [some (.ref 82), some (.int v1), some (.int v2), some (.int v3), some (.int v4), some (.int v5), some (.int v6), some (.int v7), some (.int v8), o9] [] ((119, a, b), zx_pk (zK L) 119, σ, τ, zR) = some (some (.int r), ((119, a, b), zx_pk (zK L) 119, σ, τ, zR))) {σ : zS} {τ : zT} {v1 : Int32} {v2 : Int32} {v3 : Int32} {v4 : Int32} {v6 : Int32} {v7 : Int32} {v8 : Int32} {v9 : Int32} {s0 : Int32} {o5 : Option Value} {r : Int32} (H : zb_M_isApart_91 k15 N σ v1 v2 v3 v4 v6 v7 v8 v9 s0 = some r) : zx_go 2 248 91 [some (.ref 82), some (.int v1), some (.int v2), some (.int v3), some (.int v4), o5, some (.int v6), some (.int v7), some (.int v8), some (.int v9)] [.int s0] ((119, a, b), zx_pk (zK L) 119, σ, τ, zR) = some (some (.int r), ((119, a, b), zx_pk (zK L) 119, σ, τ, zR)) := by
  unfold zb_M_isApart_91 at H
  rw [zs_istore (x := s0) (ls' := [some (.ref 82), some (.int v1), some (.int v2), some (.int v3), some (.int v4), some (.int s0), some (.int v6), some (.int v7), some (.int v8), some (.int v9)]) zd_248_91 (Nat.le_of_ble_eq_true rfl) rfl]
  rw [zs_iload (ls := [some (.ref 82), some (.int v1), some (.int v2), some (.int v3), some (.int v4), some (.int s0), some (.int v6), some (.int v7), some (.int v8), some (.int v9)]) zd_248_93 rfl]
  by_cases c17 : ¬ v6 = 0
  · rw [if_pos c17] at H
    rw [zp_if_ne_t (x := v6) (t := 128) zd_248_95 rfl c17]
    exact zt_M_isApart_128 (hk15 := hk15) H
  · rw [if_neg c17] at H
    rw [zp_if_ne_f (x := v6) (t := 128) zd_248_95 rfl c17]
    rw [zs_iload (ls := [some (.ref 82), some (.int v1), some (.int v2), some (.int v3), some (.int v4), some (.int s0), some (.int v6), some (.int v7), some (.int v8), some (.int v9)]) zd_248_98 rfl]
    rw [zs_iload_n (ls := [some (.ref 82), some (.int v1), some (.int v2), some (.int v3), some (.int v4), some (.int s0), some (.int v6), some (.int v7), some (.int v8), some (.int v9)]) zd_248_100 rfl]
    by_cases c18 : ¬ v9 = v2
    · rw [if_pos c18] at H
      rw [zp_icmp_ne_t (x := v9) (y := v2) (t := 132) zd_248_101 rfl c18]
      exact zt_M_isApart_132 (hk15 := hk15) H
    · rw [if_neg c18] at H
      rw [zp_icmp_ne_f (x := v9) (y := v2) (t := 132) zd_248_101 rfl c18]
      rw [zs_aload_n (ls := [some (.ref 82), some (.int v1), some (.int v2), some (.int v3), some (.int v4), some (.int s0), some (.int v6), some (.int v7), some (.int v8), some (.int v9)]) zd_248_104 rfl]
      rw [zs_iload_n (ls := [some (.ref 82), some (.int v1), some (.int v2), some (.int v3), some (.int v4), some (.int s0), some (.int v6), some (.int v7), some (.int v8), some (.int v9)]) zd_248_105 rfl]
      rw [zs_aload_n (ls := [some (.ref 82), some (.int v1), some (.int v2), some (.int v3), some (.int v4), some (.int s0), some (.int v6), some (.int v7), some (.int v8), some (.int v9)]) zd_248_106 rfl]
      rw [zs_iload_n (ls := [some (.ref 82), some (.int v1), some (.int v2), some (.int v3), some (.int v4), some (.int s0), some (.int v6), some (.int v7), some (.int v8), some (.int v9)]) zd_248_107 rfl]
      rw [zs_iload (ls := [some (.ref 82), some (.int v1), some (.int v2), some (.int v3), some (.int v4), some (.int s0), some (.int v6), some (.int v7), some (.int v8), some (.int v9)]) zd_248_108 rfl]
      rw [zs_bipush (z := 24) zd_248_110 (by decide)]
      rw [zp_irem (x := v8) (y := 24) (z := (zJ_rem v8 24)) zd_248_112 (by decide) rfl]
      obtain ⟨r19, hr19, H⟩ := Option.bind_eq_some_iff.mp H
      rw [zp_callVi (x := r19) (st := [.int (zJ_rem v8 24), .int v2, .ref 82, .int v2, .ref 82]) (as := [.ref 82, .int v2, .int (zJ_rem v8 24)]) (rest := [.int v2, .ref 82]) (e := 0) zd_248_113 rfl (by decide +kernel) (by decide) rfl rfl (Nat.le_of_ble_eq_true rfl) (zx_rcb_ok rfl (show 82 < 119 by decide)) (Nat.le_of_ble_eq_true rfl) rfl (by decide) (zt_M_behindOf hr19)]
      rw [zs_iconst (z := 0) zd_248_116 (by decide)]
      obtain ⟨r20, hr20, H⟩ := Option.bind_eq_some_iff.mp H
      rw [zp_callVi (x := r20) (st := [.int 0, .int r19, .int v2, .ref 82]) (as := [.ref 82, .int v2, .int r19, .int 0]) (rest := []) (e := 1) zd_248_117 rfl (by decide +kernel) (by decide) rfl rfl (Nat.le_of_ble_eq_true rfl) (zx_rcb_ok rfl (show 82 < 119 by decide)) (Nat.le_of_ble_eq_true rfl) rfl (by decide) (zt_M_reached hr20)]
      rw [zs_iload_n (ls := [some (.ref 82), some (.int v1), some (.int v2), some (.int v3), some (.int v4), some (.int s0), some (.int v6), some (.int v7), some (.int v8), some (.int v9)]) zd_248_120 rfl]
      rw [zp_ishr (x := r20) (y := v3) (z := (zJ_shr r20 v3)) zd_248_121 rfl]
      rw [zs_iconst (z := 1) zd_248_122 (by decide)]
      rw [zp_iand (x := (zJ_shr r20 v3)) (y := 1) (z := ((zJ_shr r20 v3) &&& 1)) zd_248_123 rfl]
      rw [zs_iconst (z := 1) zd_248_124 (by decide)]
      by_cases c21 : ¬ ((zJ_shr r20 v3) &&& 1) = 1
      · rw [if_pos c21] at H
        rw [zp_icmp_ne_t (x := ((zJ_shr r20 v3) &&& 1)) (y := 1) (t := 132) zd_248_125 rfl c21]
        exact zt_M_isApart_132 (hk15 := hk15) H
      · rw [if_neg c21] at H
        rw [zp_icmp_ne_f (x := ((zJ_shr r20 v3) &&& 1)) (y := 1) (t := 132) zd_248_125 rfl c21]
        exact zt_M_isApart_128 (hk15 := hk15) H
set_option maxRecDepth 20000 in
theorem zt_M_isApart_90 {a b L N : Nat} {k15 : zS → Int32 → Int32 → Int32 → Int32 → Int32 → Int32 → Int32 → Int32 → Option (Int32)} (hk15 : ∀ {σ : zS} {τ : zT} {v1 : Int32} {v2 : Int32} {v3 : Int32} {v4 : Int32} {v5 : Int32} {v6 : Int32} {v7 : Int32} {v8 : Int32} {o9 : Option Value} {r : Int32}, k15 σ v1 v2 v3 v4 v5 v6 v7 v8 = some r → zx_go 2 248 15 [some (.ref 82), some (.int v1), some (.int v2), some (.int v3), some (.int v4), some (.int v5), some (.int v6), some (.int v7), some (.int v8), o9] [] ((119, a, b), zx_pk (zK L) 119, σ, τ, zR) = some (some (.int r), ((119, a, b), zx_pk (zK L) 119, σ, τ, zR))) {σ : zS} {τ : zT} {v1 : Int32} {v2 : Int32} {v3 : Int32} {v4 : Int32} {v6 : Int32} {v7 : Int32} {v8 : Int32} {v9 : Int32} {o5 : Option Value} {r : Int32} (H : zb_M_isApart_90 k15 N σ v1 v2 v3 v4 v6 v7 v8 v9 = some r) : zx_go 2 248 90 [some (.ref 82), some (.int v1), some (.int v2), some (.int v3), some (.int v4), o5, some (.int v6), some (.int v7), some (.int v8), some (.int v9)] [] ((119, a, b), zx_pk (zK L) 119, σ, τ, zR) = some (some (.int r), ((119, a, b), zx_pk (zK L) 119, σ, τ, zR)) := by
  unfold zb_M_isApart_90 at H
  rw [zs_iconst (z := 0) zd_248_90 (by decide)]
  exact zt_M_isApart_91 (hk15 := hk15) H
set_option maxRecDepth 20000 in
theorem zt_M_isApart_15 {a b L N : Nat} : ∀ {n : Nat} {σ : zS} {τ : zT} {v1 : Int32} {v2 : Int32} {v3 : Int32} {v4 : Int32} {v5 : Int32} {v6 : Int32} {v7 : Int32} {v8 : Int32} {o9 : Option Value} {r : Int32}, zb_M_isApart_15 N n σ v1 v2 v3 v4 v5 v6 v7 v8 = some r → zx_go 2 248 15 [some (.ref 82), some (.int v1), some (.int v2), some (.int v3), some (.int v4), some (.int v5), some (.int v6), some (.int v7), some (.int v8), o9] [] ((119, a, b), zx_pk (zK L) 119, σ, τ, zR) = some (some (.int r), ((119, a, b), zx_pk (zK L) 119, σ, τ, zR)) := by
  intro n
  induction n with
  | zero =>
    intro _ _ _ _ _ _ _ _ _ _ _ _ H
    cases H
  | succ n ih =>
    intro σ τ v1 v2 v3 v4 v5 v6 v7 v8 o9 r H
    rw [zb_M_isApart_15] at H
    rw [zs_iload (ls := [some (.ref 82), some (.int v1), some (.int v2), some (.int v3), some (.int v4), some (.int v5), some (.int v6), some (.int v7), some (.int v8), o9]) zd_248_15 rfl]
    rw [zs_bipush (z := 24) zd_248_17 (by decide)]
    rw [zs_aload_n (ls := [some (.ref 82), some (.int v1), some (.int v2), some (.int v3), some (.int v4), some (.int v5), some (.int v6), some (.int v7), some (.int v8), o9]) zd_248_19 rfl]
    rw [zp_getI (n := 119) (K := zx_pk (zK L) 119) (σ := σ) (c := 12) (k := 17) (q := 82) (v := (σ 82 17)) zd_248_20 rfl rfl rfl (by decide) rfl]
    rw [zp_imul (x := 24) (y := (σ 82 17)) (z := (24 * (σ 82 17))) zd_248_23 rfl]
    by_cases c1 : (24 * (σ 82 17)) ≤ v8
    · rw [if_pos c1] at H
      rw [zp_icmp_ge_t (x := v8) (y := (24 * (σ 82 17))) (t := 171) zd_248_24 rfl c1]
      rw [zs_iload (ls := [some (.ref 82), some (.int v1), some (.int v2), some (.int v3), some (.int v4), some (.int v5), some (.int v6), some (.int v7), some (.int v8), o9]) zd_248_171 rfl]
      by_cases c2 : v4 = 0
      · rw [if_pos c2] at H
        rw [zp_if_eq_t (x := v4) (t := 186) zd_248_173 rfl c2]
        exact zt_M_isApart_186  H
      · rw [if_neg c2] at H
        rw [zp_if_eq_f (x := v4) (t := 186) zd_248_173 rfl c2]
        rw [zs_iload (ls := [some (.ref 82), some (.int v1), some (.int v2), some (.int v3), some (.int v4), some (.int v5), some (.int v6), some (.int v7), some (.int v8), o9]) zd_248_176 rfl]
        by_cases c5 : v5 = 0
        · rw [if_pos c5] at H
          rw [zp_if_eq_t (x := v5) (t := 186) zd_248_178 rfl c5]
          exact zt_M_isApart_186  H
        · rw [if_neg c5] at H
          rw [zp_if_eq_f (x := v5) (t := 186) zd_248_178 rfl c5]
          rw [zs_iload (ls := [some (.ref 82), some (.int v1), some (.int v2), some (.int v3), some (.int v4), some (.int v5), some (.int v6), some (.int v7), some (.int v8), o9]) zd_248_181 rfl]
          by_cases c6 : v6 = 0
          · rw [if_pos c6] at H
            rw [zp_if_eq_t (x := v6) (t := 201) zd_248_183 rfl c6]
            exact zt_M_isApart_201  H
          · rw [if_neg c6] at H
            rw [zp_if_eq_f (x := v6) (t := 201) zd_248_183 rfl c6]
            exact zt_M_isApart_186  H
    · rw [if_neg c1] at H
      rw [zp_icmp_ge_f (x := v8) (y := (24 * (σ 82 17))) (t := 171) zd_248_24 rfl c1]
      rw [zs_iload (ls := [some (.ref 82), some (.int v1), some (.int v2), some (.int v3), some (.int v4), some (.int v5), some (.int v6), some (.int v7), some (.int v8), o9]) zd_248_27 rfl]
      rw [zs_bipush (z := 24) zd_248_29 (by decide)]
      rw [zp_idiv (x := v8) (y := 24) (z := (v8 / 24)) zd_248_31 (by decide) rfl]
      rw [zs_istore (x := (v8 / 24)) (ls' := [some (.ref 82), some (.int v1), some (.int v2), some (.int v3), some (.int v4), some (.int v5), some (.int v6), some (.int v7), some (.int v8), some (.int (v8 / 24))]) zd_248_32 (Nat.le_of_ble_eq_true rfl) rfl]
      rw [zs_iload (ls := [some (.ref 82), some (.int v1), some (.int v2), some (.int v3), some (.int v4), some (.int v5), some (.int v6), some (.int v7), some (.int v8), some (.int (v8 / 24))]) zd_248_34 rfl]
      rw [zs_bipush (z := 24) zd_248_36 (by decide)]
      rw [zp_irem (x := v8) (y := 24) (z := (zJ_rem v8 24)) zd_248_38 (by decide) rfl]
      rw [zs_aload_n (ls := [some (.ref 82), some (.int v1), some (.int v2), some (.int v3), some (.int v4), some (.int v5), some (.int v6), some (.int v7), some (.int v8), some (.int (v8 / 24))]) zd_248_39 rfl]
      rw [zs_getR (n := 119) (K := zx_pk (zK L) 119) (ρ := zR) (c := 12) (k := 24) (q := 82) (p := 90) zd_248_40 rfl rfl rfl (by decide) rfl]
      rw [zs_iload (ls := [some (.ref 82), some (.int v1), some (.int v2), some (.int v3), some (.int v4), some (.int v5), some (.int v6), some (.int v7), some (.int v8), some (.int (v8 / 24))]) zd_248_43 rfl]
      by_cases c7 : 0 ≤ (v8 / 24) ∧ (v8 / 24) < 4
      · rw [if_pos c7] at H
        rw [zp_iaload (n := 119) (K := zx_pk (zK L) 119) (σ := σ) (q := 90) (m := 4) (i := (v8 / 24)) (k := (v8 / 24).toNatClampNeg) (v := (σ 90 (v8 / 24).toNatClampNeg)) zd_248_45 rfl (by decide) (zJ_in c7 rfl) rfl rfl]
        by_cases c8 : (σ 90 (v8 / 24).toNatClampNeg) ≤ (zJ_rem v8 24)
        · rw [if_pos c8] at H
          rw [zp_icmp_ge_t (x := (zJ_rem v8 24)) (y := (σ 90 (v8 / 24).toNatClampNeg)) (t := 165) zd_248_46 rfl c8]
          exact zt_M_isApart_165 (hk15 := ih) H
        · rw [if_neg c8] at H
          rw [zp_icmp_ge_f (x := (zJ_rem v8 24)) (y := (σ 90 (v8 / 24).toNatClampNeg)) (t := 165) zd_248_46 rfl c8]
          rw [zs_aload_n (ls := [some (.ref 82), some (.int v1), some (.int v2), some (.int v3), some (.int v4), some (.int v5), some (.int v6), some (.int v7), some (.int v8), some (.int (v8 / 24))]) zd_248_49 rfl]
          rw [zs_getR (n := 119) (K := zx_pk (zK L) 119) (ρ := zR) (c := 12) (k := 28) (q := 82) (p := 93) zd_248_50 rfl rfl rfl (by decide) rfl]
          rw [zs_iload (ls := [some (.ref 82), some (.int v1), some (.int v2), some (.int v3), some (.int v4), some (.int v5), some (.int v6), some (.int v7), some (.int v8), some (.int (v8 / 24))]) zd_248_53 rfl]
          by_cases c9 : 0 ≤ v8 ∧ v8 < 96
          · rw [if_pos c9] at H
            rw [zp_iaload (n := 119) (K := zx_pk (zK L) 119) (σ := σ) (q := 93) (m := 96) (i := v8) (k := v8.toNatClampNeg) (v := (σ 93 v8.toNatClampNeg)) zd_248_55 rfl (by decide) (zJ_in c9 rfl) rfl rfl]
            rw [zs_iload_n (ls := [some (.ref 82), some (.int v1), some (.int v2), some (.int v3), some (.int v4), some (.int v5), some (.int v6), some (.int v7), some (.int v8), some (.int (v8 / 24))]) zd_248_56 rfl]
            by_cases c10 : ¬ (σ 93 v8.toNatClampNeg) = v1
            · rw [if_pos c10] at H
              rw [zp_icmp_ne_t (x := (σ 93 v8.toNatClampNeg)) (y := v1) (t := 165) zd_248_57 rfl c10]
              exact zt_M_isApart_165 (hk15 := ih) H
            · rw [if_neg c10] at H
              rw [zp_icmp_ne_f (x := (σ 93 v8.toNatClampNeg)) (y := v1) (t := 165) zd_248_57 rfl c10]
              rw [zs_aload_n (ls := [some (.ref 82), some (.int v1), some (.int v2), some (.int v3), some (.int v4), some (.int v5), some (.int v6), some (.int v7), some (.int v8), some (.int (v8 / 24))]) zd_248_60 rfl]
              rw [zs_getR (n := 119) (K := zx_pk (zK L) 119) (ρ := zR) (c := 12) (k := 27) (q := 82) (p := 92) zd_248_61 rfl rfl rfl (by decide) rfl]
              rw [zs_iload (ls := [some (.ref 82), some (.int v1), some (.int v2), some (.int v3), some (.int v4), some (.int v5), some (.int v6), some (.int v7), some (.int v8), some (.int (v8 / 24))]) zd_248_64 rfl]
              by_cases c11 : 0 ≤ v8 ∧ v8 < 96
              · rw [if_pos c11] at H
                rw [zp_iaload (n := 119) (K := zx_pk (zK L) 119) (σ := σ) (q := 92) (m := 96) (i := v8) (k := v8.toNatClampNeg) (v := (σ 92 v8.toNatClampNeg)) zd_248_66 rfl (by decide) (zJ_in c11 rfl) rfl rfl]
                rw [zs_bipush (z := 10) zd_248_67 (by decide)]
                by_cases c12 : ¬ (σ 92 v8.toNatClampNeg) = 10
                · rw [if_pos c12] at H
                  rw [zp_icmp_ne_t (x := (σ 92 v8.toNatClampNeg)) (y := 10) (t := 135) zd_248_69 rfl c12]
                  exact zt_M_isApart_135 (hk15 := ih) H
                · rw [if_neg c12] at H
                  rw [zp_icmp_ne_f (x := (σ 92 v8.toNatClampNeg)) (y := 10) (t := 135) zd_248_69 rfl c12]
                  rw [zs_iconst (z := 1) zd_248_72 (by decide)]
                  rw [zs_istore (x := 1) (ls' := [some (.ref 82), some (.int v1), some (.int v2), some (.int v3), some (.int 1), some (.int v5), some (.int v6), some (.int v7), some (.int v8), some (.int (v8 / 24))]) zd_248_73 (Nat.le_of_ble_eq_true rfl) rfl]
                  rw [zs_iload (ls := [some (.ref 82), some (.int v1), some (.int v2), some (.int v3), some (.int 1), some (.int v5), some (.int v6), some (.int v7), some (.int v8), some (.int (v8 / 24))]) zd_248_75 rfl]
                  by_cases c16 : v5 = 0
                  · rw [if_pos c16] at H
                    rw [zp_if_eq_t (x := v5) (t := 90) zd_248_77 rfl c16]
                    exact zt_M_isApart_90 (hk15 := ih) H
                  · rw [if_neg c16] at H
                    rw [zp_if_eq_f (x := v5) (t := 90) zd_248_77 rfl c16]
                    rw [zs_iload (ls := [some (.ref 82), some (.int v1), some (.int v2), some (.int v3), some (.int 1), some (.int v5), some (.int v6), some (.int v7), some (.int v8), some (.int (v8 / 24))]) zd_248_80 rfl]
                    rw [zs_iload_n (ls := [some (.ref 82), some (.int v1), some (.int v2), some (.int v3), some (.int 1), some (.int v5), some (.int v6), some (.int v7), some (.int v8), some (.int (v8 / 24))]) zd_248_82 rfl]
                    by_cases c22 : ¬ (v8 / 24) = v2
                    · rw [if_pos c22] at H
                      rw [zp_icmp_ne_t (x := (v8 / 24)) (y := v2) (t := 90) zd_248_83 rfl c22]
                      exact zt_M_isApart_90 (hk15 := ih) H
                    · rw [if_neg c22] at H
                      rw [zp_icmp_ne_f (x := (v8 / 24)) (y := v2) (t := 90) zd_248_83 rfl c22]
                      rw [zs_iconst (z := 1) zd_248_86 (by decide)]
                      rw [zs_goto (t := 91) zd_248_87 rfl]
                      exact zt_M_isApart_91 (hk15 := ih) H
              · rw [if_neg c11] at H
                cases H
          · rw [if_neg c9] at H
            cases H
      · rw [if_neg c7] at H
        cases H
set_option maxRecDepth 20000 in
theorem zt_M_isApart {a b L N : Nat} {σ : zS} {τ : zT} {x1 : Int32} {x2 : Int32} {x3 : Int32} {r : Int32} (H : zf_M_isApart N σ x1 x2 x3 = some r) : zx_go 2 248 0 [some (.ref 82), some (.int x1), some (.int x2), some (.int x3), none, none, none, none, none, none] [] ((119, a, b), zx_pk (zK L) 119, σ, τ, zR) = some (some (.int r), ((119, a, b), zx_pk (zK L) 119, σ, τ, zR)) := by
  unfold zf_M_isApart at H
  rw [zs_iconst (z := 0) zd_248_0 (by decide)]
  rw [zs_istore (x := 0) (ls' := [some (.ref 82), some (.int x1), some (.int x2), some (.int x3), some (.int 0), none, none, none, none, none]) zd_248_1 (Nat.le_of_ble_eq_true rfl) rfl]
  rw [zs_iconst (z := 1) zd_248_3 (by decide)]
  rw [zs_istore (x := 1) (ls' := [some (.ref 82), some (.int x1), some (.int x2), some (.int x3), some (.int 0), some (.int 1), none, none, none, none]) zd_248_4 (Nat.le_of_ble_eq_true rfl) rfl]
  rw [zs_iconst (z := 0) zd_248_6 (by decide)]
  rw [zs_istore (x := 0) (ls' := [some (.ref 82), some (.int x1), some (.int x2), some (.int x3), some (.int 0), some (.int 1), some (.int 0), none, none, none]) zd_248_7 (Nat.le_of_ble_eq_true rfl) rfl]
  rw [zs_iconst (z := 0) zd_248_9 (by decide)]
  rw [zs_istore (x := 0) (ls' := [some (.ref 82), some (.int x1), some (.int x2), some (.int x3), some (.int 0), some (.int 1), some (.int 0), some (.int 0), none, none]) zd_248_10 (Nat.le_of_ble_eq_true rfl) rfl]
  rw [zs_iconst (z := 0) zd_248_12 (by decide)]
  rw [zs_istore (x := 0) (ls' := [some (.ref 82), some (.int x1), some (.int x2), some (.int x3), some (.int 0), some (.int 1), some (.int 0), some (.int 0), some (.int 0), none]) zd_248_13 (Nat.le_of_ble_eq_true rfl) rfl]
  exact zt_M_isApart_15  H
set_option maxRecDepth 20000 in
theorem zt_M_meets {a b L N : Nat} {σ : zS} {τ : zT} {x1 : Int32} {x2 : Int32} {x3 : Int32} {x4 : Int32} {r : Int32} (H : zf_M_meets N σ x1 x2 x3 x4 = some r) : zx_go 3 247 0 [some (.ref 82), some (.int x1), some (.int x2), some (.int x3), some (.int x4)] [] ((119, a, b), zx_pk (zK L) 119, σ, τ, zR) = some (some (.int r), ((119, a, b), zx_pk (zK L) 119, σ, τ, zR)) := by
  unfold zf_M_meets at H
  rw [zs_aload_n (ls := [some (.ref 82), some (.int x1), some (.int x2), some (.int x3), some (.int x4)]) zd_247_0 rfl]
  rw [zs_iload_n (ls := [some (.ref 82), some (.int x1), some (.int x2), some (.int x3), some (.int x4)]) zd_247_1 rfl]
  rw [zs_iload_n (ls := [some (.ref 82), some (.int x1), some (.int x2), some (.int x3), some (.int x4)]) zd_247_2 rfl]
  rw [zs_iload (ls := [some (.ref 82), some (.int x1), some (.int x2), some (.int x3), some (.int x4)]) zd_247_3 rfl]
  obtain ⟨r1, hr1, H⟩ := Option.bind_eq_some_iff.mp H
  rw [zp_callVi (x := r1) (st := [.int x4, .int x3, .int x1, .ref 82]) (as := [.ref 82, .int x1, .int x3, .int x4]) (rest := []) (e := 2) zd_247_5 rfl (by decide +kernel) (by decide) rfl rfl (Nat.le_of_ble_eq_true rfl) (zx_rcb_ok rfl (show 82 < 119 by decide)) (Nat.le_of_ble_eq_true rfl) rfl (by decide) (zt_M_isApart hr1)]
  by_cases c2 : ¬ r1 = 0
  · rw [if_pos c2] at H
    rw [zp_if_ne_t (x := r1) (t := 25) zd_247_8 rfl c2]
    rw [zs_iconst (z := 0) zd_247_25 (by decide)]
    have H := Option.some.inj H
    subst H
    exact zs_ireturn zd_247_26 (by decide +kernel)
  · rw [if_neg c2] at H
    rw [zp_if_ne_f (x := r1) (t := 25) zd_247_8 rfl c2]
    rw [zs_aload_n (ls := [some (.ref 82), some (.int x1), some (.int x2), some (.int x3), some (.int x4)]) zd_247_11 rfl]
    rw [zs_iload_n (ls := [some (.ref 82), some (.int x1), some (.int x2), some (.int x3), some (.int x4)]) zd_247_12 rfl]
    rw [zs_iload_n (ls := [some (.ref 82), some (.int x1), some (.int x2), some (.int x3), some (.int x4)]) zd_247_13 rfl]
    rw [zs_iload_n (ls := [some (.ref 82), some (.int x1), some (.int x2), some (.int x3), some (.int x4)]) zd_247_14 rfl]
    obtain ⟨r3, hr3, H⟩ := Option.bind_eq_some_iff.mp H
    rw [zp_callVi (x := r3) (st := [.int x2, .int x1, .int x3, .ref 82]) (as := [.ref 82, .int x3, .int x1, .int x2]) (rest := []) (e := 2) zd_247_15 rfl (by decide +kernel) (by decide) rfl rfl (Nat.le_of_ble_eq_true rfl) (zx_rcb_ok rfl (show 82 < 119 by decide)) (Nat.le_of_ble_eq_true rfl) rfl (by decide) (zt_M_isApart hr3)]
    by_cases c4 : ¬ r3 = 0
    · rw [if_pos c4] at H
      rw [zp_if_ne_t (x := r3) (t := 25) zd_247_18 rfl c4]
      rw [zs_iconst (z := 0) zd_247_25 (by decide)]
      have H := Option.some.inj H
      subst H
      exact zs_ireturn zd_247_26 (by decide +kernel)
    · rw [if_neg c4] at H
      rw [zp_if_ne_f (x := r3) (t := 25) zd_247_18 rfl c4]
      rw [zs_iconst (z := 1) zd_247_21 (by decide)]
      rw [zs_goto (t := 26) zd_247_22 rfl]
      have H := Option.some.inj H
      subst H
      exact zs_ireturn zd_247_26 (by decide +kernel)
set_option maxRecDepth 20000 in
theorem zt_M_isDoubt {a b L N : Nat} {σ : zS} {τ : zT} {x1 : Int32} {x2 : Int32} {r : Int32} (H : zf_M_isDoubt N σ x1 x2 = some r) : zx_go 4 246 0 [some (.ref 82), some (.int x1), some (.int x2)] [] ((119, a, b), zx_pk (zK L) 119, σ, τ, zR) = some (some (.int r), ((119, a, b), zx_pk (zK L) 119, σ, τ, zR)) := by
  unfold zf_M_isDoubt at H
  rw [zs_aload_n (ls := [some (.ref 82), some (.int x1), some (.int x2)]) zd_246_0 rfl]
  rw [zs_iload_n (ls := [some (.ref 82), some (.int x1), some (.int x2)]) zd_246_1 rfl]
  rw [zs_iload_n (ls := [some (.ref 82), some (.int x1), some (.int x2)]) zd_246_2 rfl]
  obtain ⟨r1, hr1, H⟩ := Option.bind_eq_some_iff.mp H
  rw [zp_callVi (x := r1) (st := [.int x2, .int x1, .ref 82]) (as := [.ref 82, .int x1, .int x2]) (rest := []) (e := 1) zd_246_3 rfl (by decide +kernel) (by decide) rfl rfl (Nat.le_of_ble_eq_true rfl) (zx_rcb_ok rfl (show 82 < 119 by decide)) (Nat.le_of_ble_eq_true rfl) rfl (by decide) (zt_M_wouldRace hr1)]
  by_cases c2 : r1 = 0
  · rw [if_pos c2] at H
    rw [zp_if_eq_t (x := r1) (t := 52) zd_246_6 rfl c2]
    rw [zs_iconst (z := 0) zd_246_52 (by decide)]
    have H := Option.some.inj H
    subst H
    exact zs_ireturn zd_246_53 (by decide +kernel)
  · rw [if_neg c2] at H
    rw [zp_if_eq_f (x := r1) (t := 52) zd_246_6 rfl c2]
    rw [zs_aload_n (ls := [some (.ref 82), some (.int x1), some (.int x2)]) zd_246_9 rfl]
    rw [zs_getR (n := 119) (K := zx_pk (zK L) 119) (ρ := zR) (c := 12) (k := 31) (q := 82) (p := 96) zd_246_10 rfl rfl rfl (by decide) rfl]
    rw [zs_iload_n (ls := [some (.ref 82), some (.int x1), some (.int x2)]) zd_246_13 rfl]
    by_cases c3 : 0 ≤ x1 ∧ x1 < 96
    · rw [if_pos c3] at H
      rw [zp_iaload (n := 119) (K := zx_pk (zK L) 119) (σ := σ) (q := 96) (m := 96) (i := x1) (k := x1.toNatClampNeg) (v := (σ 96 x1.toNatClampNeg)) zd_246_14 rfl (by decide) (zJ_in c3 rfl) rfl rfl]
      rw [zs_aload_n (ls := [some (.ref 82), some (.int x1), some (.int x2)]) zd_246_15 rfl]
      rw [zs_getR (n := 119) (K := zx_pk (zK L) 119) (ρ := zR) (c := 12) (k := 31) (q := 82) (p := 96) zd_246_16 rfl rfl rfl (by decide) rfl]
      rw [zs_iload_n (ls := [some (.ref 82), some (.int x1), some (.int x2)]) zd_246_19 rfl]
      by_cases c4 : 0 ≤ x2 ∧ x2 < 96
      · rw [if_pos c4] at H
        rw [zp_iaload (n := 119) (K := zx_pk (zK L) 119) (σ := σ) (q := 96) (m := 96) (i := x2) (k := x2.toNatClampNeg) (v := (σ 96 x2.toNatClampNeg)) zd_246_20 rfl (by decide) (zJ_in c4 rfl) rfl rfl]
        rw [zp_iand (x := (σ 96 x1.toNatClampNeg)) (y := (σ 96 x2.toNatClampNeg)) (z := ((σ 96 x1.toNatClampNeg) &&& (σ 96 x2.toNatClampNeg))) zd_246_21 rfl]
        by_cases c5 : ¬ ((σ 96 x1.toNatClampNeg) &&& (σ 96 x2.toNatClampNeg)) = 0
        · rw [if_pos c5] at H
          rw [zp_if_ne_t (x := ((σ 96 x1.toNatClampNeg) &&& (σ 96 x2.toNatClampNeg))) (t := 52) zd_246_22 rfl c5]
          rw [zs_iconst (z := 0) zd_246_52 (by decide)]
          have H := Option.some.inj H
          subst H
          exact zs_ireturn zd_246_53 (by decide +kernel)
        · rw [if_neg c5] at H
          rw [zp_if_ne_f (x := ((σ 96 x1.toNatClampNeg) &&& (σ 96 x2.toNatClampNeg))) (t := 52) zd_246_22 rfl c5]
          rw [zs_aload_n (ls := [some (.ref 82), some (.int x1), some (.int x2)]) zd_246_25 rfl]
          rw [zs_iload_n (ls := [some (.ref 82), some (.int x1), some (.int x2)]) zd_246_26 rfl]
          rw [zs_bipush (z := 24) zd_246_27 (by decide)]
          rw [zp_idiv (x := x1) (y := 24) (z := (x1 / 24)) zd_246_29 (by decide) rfl]
          rw [zs_iload_n (ls := [some (.ref 82), some (.int x1), some (.int x2)]) zd_246_30 rfl]
          rw [zs_bipush (z := 24) zd_246_31 (by decide)]
          rw [zp_irem (x := x1) (y := 24) (z := (zJ_rem x1 24)) zd_246_33 (by decide) rfl]
          rw [zs_iload_n (ls := [some (.ref 82), some (.int x1), some (.int x2)]) zd_246_34 rfl]
          rw [zs_bipush (z := 24) zd_246_35 (by decide)]
          rw [zp_idiv (x := x2) (y := 24) (z := (x2 / 24)) zd_246_37 (by decide) rfl]
          rw [zs_iload_n (ls := [some (.ref 82), some (.int x1), some (.int x2)]) zd_246_38 rfl]
          rw [zs_bipush (z := 24) zd_246_39 (by decide)]
          rw [zp_irem (x := x2) (y := 24) (z := (zJ_rem x2 24)) zd_246_41 (by decide) rfl]
          obtain ⟨r6, hr6, H⟩ := Option.bind_eq_some_iff.mp H
          rw [zp_callVi (x := r6) (st := [.int (zJ_rem x2 24), .int (x2 / 24), .int (zJ_rem x1 24), .int (x1 / 24), .ref 82]) (as := [.ref 82, .int (x1 / 24), .int (zJ_rem x1 24), .int (x2 / 24), .int (zJ_rem x2 24)]) (rest := []) (e := 3) zd_246_42 rfl (by decide +kernel) (by decide) rfl rfl (Nat.le_of_ble_eq_true rfl) (zx_rcb_ok rfl (show 82 < 119 by decide)) (Nat.le_of_ble_eq_true rfl) rfl (by decide) (zt_M_meets hr6)]
          by_cases c7 : r6 = 0
          · rw [if_pos c7] at H
            rw [zp_if_eq_t (x := r6) (t := 52) zd_246_45 rfl c7]
            rw [zs_iconst (z := 0) zd_246_52 (by decide)]
            have H := Option.some.inj H
            subst H
            exact zs_ireturn zd_246_53 (by decide +kernel)
          · rw [if_neg c7] at H
            rw [zp_if_eq_f (x := r6) (t := 52) zd_246_45 rfl c7]
            rw [zs_iconst (z := 1) zd_246_48 (by decide)]
            rw [zs_goto (t := 53) zd_246_49 rfl]
            have H := Option.some.inj H
            subst H
            exact zs_ireturn zd_246_53 (by decide +kernel)
      · rw [if_neg c4] at H
        cases H
    · rw [if_neg c3] at H
      cases H
set_option maxRecDepth 20000 in
theorem zt_M_doubtAt_115 {a b L N : Nat} {k5 : zS → Int32 → Int32 → Int32 → Int32 → Option (Int32)} (hk5 : ∀ {σ : zS} {τ : zT} {v1 : Int32} {v2 : Int32} {v3 : Int32} {v4 : Int32} {o5 : Option Value} {r : Int32}, k5 σ v1 v2 v3 v4 = some r → zx_go 5 245 5 [some (.ref 82), some (.int v1), some (.int v2), some (.int v3), some (.int v4), o5] [] ((119, a, b), zx_pk (zK L) 119, σ, τ, zR) = some (some (.int r), ((119, a, b), zx_pk (zK L) 119, σ, τ, zR))) {σ : zS} {τ : zT} {v1 : Int32} {v2 : Int32} {v3 : Int32} {v4 : Int32} {o5 : Option Value} {r : Int32} (H : zb_M_doubtAt_115 k5 N σ v1 v2 v3 v4 = some r) : zx_go 5 245 115 [some (.ref 82), some (.int v1), some (.int v2), some (.int v3), some (.int v4), o5] [] ((119, a, b), zx_pk (zK L) 119, σ, τ, zR) = some (some (.int r), ((119, a, b), zx_pk (zK L) 119, σ, τ, zR)) := by
  unfold zb_M_doubtAt_115 at H
  rw [zs_iinc (ls := [some (.ref 82), some (.int v1), some (.int v2), some (.int v3), some (.int v4), o5]) (x := v4) (z := (v4 + 1)) (ls' := [some (.ref 82), some (.int v1), some (.int v2), some (.int v3), some (.int (v4 + 1)), o5]) zd_245_115 rfl rfl rfl]
  rw [zs_goto (t := 5) zd_245_118 rfl]
  exact hk5 H
set_option maxRecDepth 20000 in
theorem zt_M_doubtAt_109 {a b L N : Nat} {k29 : zS → Int32 → Int32 → Int32 → Int32 → Int32 → Option (Int32)} (hk29 : ∀ {σ : zS} {τ : zT} {v1 : Int32} {v2 : Int32} {v3 : Int32} {v4 : Int32} {v5 : Int32} {r : Int32}, k29 σ v1 v2 v3 v4 v5 = some r → zx_go 5 245 29 [some (.ref 82), some (.int v1), some (.int v2), some (.int v3), some (.int v4), some (.int v5)] [] ((119, a, b), zx_pk (zK L) 119, σ, τ, zR) = some (some (.int r), ((119, a, b), zx_pk (zK L) 119, σ, τ, zR))) {σ : zS} {τ : zT} {v1 : Int32} {v2 : Int32} {v3 : Int32} {v4 : Int32} {v5 : Int32} {r : Int32} (H : zb_M_doubtAt_109 k29 N σ v1 v2 v3 v4 v5 = some r) : zx_go 5 245 109 [some (.ref 82), some (.int v1), some (.int v2), some (.int v3), some (.int v4), some (.int v5)] [] ((119, a, b), zx_pk (zK L) 119, σ, τ, zR) = some (some (.int r), ((119, a, b), zx_pk (zK L) 119, σ, τ, zR)) := by
  unfold zb_M_doubtAt_109 at H
  rw [zs_iinc (ls := [some (.ref 82), some (.int v1), some (.int v2), some (.int v3), some (.int v4), some (.int v5)]) (x := v5) (z := (v5 + 1)) (ls' := [some (.ref 82), some (.int v1), some (.int v2), some (.int v3), some (.int v4), some (.int (v5 + 1))]) zd_245_109 rfl rfl rfl]
  rw [zs_goto (t := 29) zd_245_112 rfl]
  exact hk29 H
set_option maxRecDepth 20000 in
theorem zt_M_doubtAt_106 {a b L N : Nat} {k29 : zS → Int32 → Int32 → Int32 → Int32 → Int32 → Option (Int32)} (hk29 : ∀ {σ : zS} {τ : zT} {v1 : Int32} {v2 : Int32} {v3 : Int32} {v4 : Int32} {v5 : Int32} {r : Int32}, k29 σ v1 v2 v3 v4 v5 = some r → zx_go 5 245 29 [some (.ref 82), some (.int v1), some (.int v2), some (.int v3), some (.int v4), some (.int v5)] [] ((119, a, b), zx_pk (zK L) 119, σ, τ, zR) = some (some (.int r), ((119, a, b), zx_pk (zK L) 119, σ, τ, zR))) {σ : zS} {τ : zT} {v1 : Int32} {v2 : Int32} {v3 : Int32} {v4 : Int32} {v5 : Int32} {r : Int32} (H : zb_M_doubtAt_106 k29 N σ v1 v2 v3 v4 v5 = some r) : zx_go 5 245 106 [some (.ref 82), some (.int v1), some (.int v2), some (.int v3), some (.int v4), some (.int v5)] [] ((119, a, b), zx_pk (zK L) 119, σ, τ, zR) = some (some (.int r), ((119, a, b), zx_pk (zK L) 119, σ, τ, zR)) := by
  unfold zb_M_doubtAt_106 at H
  rw [zs_iinc (ls := [some (.ref 82), some (.int v1), some (.int v2), some (.int v3), some (.int v4), some (.int v5)]) (x := v3) (z := (v3 + 1)) (ls' := [some (.ref 82), some (.int v1), some (.int v2), some (.int (v3 + 1)), some (.int v4), some (.int v5)]) zd_245_106 rfl rfl rfl]
  exact zt_M_doubtAt_109 (hk29 := hk29) H
set_option maxRecDepth 20000 in
theorem zt_M_doubtAt_29 {a b L N : Nat} {k5 : zS → Int32 → Int32 → Int32 → Int32 → Option (Int32)} (hk5 : ∀ {σ : zS} {τ : zT} {v1 : Int32} {v2 : Int32} {v3 : Int32} {v4 : Int32} {o5 : Option Value} {r : Int32}, k5 σ v1 v2 v3 v4 = some r → zx_go 5 245 5 [some (.ref 82), some (.int v1), some (.int v2), some (.int v3), some (.int v4), o5] [] ((119, a, b), zx_pk (zK L) 119, σ, τ, zR) = some (some (.int r), ((119, a, b), zx_pk (zK L) 119, σ, τ, zR))) : ∀ {n : Nat} {σ : zS} {τ : zT} {v1 : Int32} {v2 : Int32} {v3 : Int32} {v4 : Int32} {v5 : Int32} {r : Int32}, zb_M_doubtAt_29 k5 N n σ v1 v2 v3 v4 v5 = some r → zx_go 5 245 29 [some (.ref 82), some (.int v1), some (.int v2), some (.int v3), some (.int v4), some (.int v5)] [] ((119, a, b), zx_pk (zK L) 119, σ, τ, zR) = some (some (.int r), ((119, a, b), zx_pk (zK L) 119, σ, τ, zR)) := by
  intro n
  induction n with
  | zero =>
    intro _ _ _ _ _ _ _ _ H
    cases H
  | succ n ih =>
    intro σ τ v1 v2 v3 v4 v5 r H
    rw [zb_M_doubtAt_29] at H
    rw [zs_iload (ls := [some (.ref 82), some (.int v1), some (.int v2), some (.int v3), some (.int v4), some (.int v5)]) zd_245_29 rfl]
    rw [zs_bipush (z := 24) zd_245_31 (by decide)]
    rw [zs_aload_n (ls := [some (.ref 82), some (.int v1), some (.int v2), some (.int v3), some (.int v4), some (.int v5)]) zd_245_33 rfl]
    rw [zp_getI (n := 119) (K := zx_pk (zK L) 119) (σ := σ) (c := 12) (k := 17) (q := 82) (v := (σ 82 17)) zd_245_34 rfl rfl rfl (by decide) rfl]
    rw [zp_imul (x := 24) (y := (σ 82 17)) (z := (24 * (σ 82 17))) zd_245_37 rfl]
    by_cases c3 : (24 * (σ 82 17)) ≤ v5
    · rw [if_pos c3] at H
      rw [zp_icmp_ge_t (x := v5) (y := (24 * (σ 82 17))) (t := 115) zd_245_38 rfl c3]
      exact zt_M_doubtAt_115 (hk5 := hk5) H
    · rw [if_neg c3] at H
      rw [zp_icmp_ge_f (x := v5) (y := (24 * (σ 82 17))) (t := 115) zd_245_38 rfl c3]
      rw [zs_iload (ls := [some (.ref 82), some (.int v1), some (.int v2), some (.int v3), some (.int v4), some (.int v5)]) zd_245_41 rfl]
      rw [zs_bipush (z := 24) zd_245_43 (by decide)]
      rw [zp_irem (x := v4) (y := 24) (z := (zJ_rem v4 24)) zd_245_45 (by decide) rfl]
      rw [zs_aload_n (ls := [some (.ref 82), some (.int v1), some (.int v2), some (.int v3), some (.int v4), some (.int v5)]) zd_245_46 rfl]
      rw [zs_getR (n := 119) (K := zx_pk (zK L) 119) (ρ := zR) (c := 12) (k := 24) (q := 82) (p := 90) zd_245_47 rfl rfl rfl (by decide) rfl]
      rw [zs_iload (ls := [some (.ref 82), some (.int v1), some (.int v2), some (.int v3), some (.int v4), some (.int v5)]) zd_245_50 rfl]
      rw [zs_bipush (z := 24) zd_245_52 (by decide)]
      rw [zp_idiv (x := v4) (y := 24) (z := (v4 / 24)) zd_245_54 (by decide) rfl]
      by_cases c4 : 0 ≤ (v4 / 24) ∧ (v4 / 24) < 4
      · rw [if_pos c4] at H
        rw [zp_iaload (n := 119) (K := zx_pk (zK L) 119) (σ := σ) (q := 90) (m := 4) (i := (v4 / 24)) (k := (v4 / 24).toNatClampNeg) (v := (σ 90 (v4 / 24).toNatClampNeg)) zd_245_55 rfl (by decide) (zJ_in c4 rfl) rfl rfl]
        by_cases c5 : (σ 90 (v4 / 24).toNatClampNeg) ≤ (zJ_rem v4 24)
        · rw [if_pos c5] at H
          rw [zp_icmp_ge_t (x := (zJ_rem v4 24)) (y := (σ 90 (v4 / 24).toNatClampNeg)) (t := 115) zd_245_56 rfl c5]
          exact zt_M_doubtAt_115 (hk5 := hk5) H
        · rw [if_neg c5] at H
          rw [zp_icmp_ge_f (x := (zJ_rem v4 24)) (y := (σ 90 (v4 / 24).toNatClampNeg)) (t := 115) zd_245_56 rfl c5]
          rw [zs_iload (ls := [some (.ref 82), some (.int v1), some (.int v2), some (.int v3), some (.int v4), some (.int v5)]) zd_245_59 rfl]
          rw [zs_bipush (z := 24) zd_245_61 (by decide)]
          rw [zp_irem (x := v5) (y := 24) (z := (zJ_rem v5 24)) zd_245_63 (by decide) rfl]
          rw [zs_aload_n (ls := [some (.ref 82), some (.int v1), some (.int v2), some (.int v3), some (.int v4), some (.int v5)]) zd_245_64 rfl]
          rw [zs_getR (n := 119) (K := zx_pk (zK L) 119) (ρ := zR) (c := 12) (k := 24) (q := 82) (p := 90) zd_245_65 rfl rfl rfl (by decide) rfl]
          rw [zs_iload (ls := [some (.ref 82), some (.int v1), some (.int v2), some (.int v3), some (.int v4), some (.int v5)]) zd_245_68 rfl]
          rw [zs_bipush (z := 24) zd_245_70 (by decide)]
          rw [zp_idiv (x := v5) (y := 24) (z := (v5 / 24)) zd_245_72 (by decide) rfl]
          by_cases c6 : 0 ≤ (v5 / 24) ∧ (v5 / 24) < 4
          · rw [if_pos c6] at H
            rw [zp_iaload (n := 119) (K := zx_pk (zK L) 119) (σ := σ) (q := 90) (m := 4) (i := (v5 / 24)) (k := (v5 / 24).toNatClampNeg) (v := (σ 90 (v5 / 24).toNatClampNeg)) zd_245_73 rfl (by decide) (zJ_in c6 rfl) rfl rfl]
            by_cases c7 : (σ 90 (v5 / 24).toNatClampNeg) ≤ (zJ_rem v5 24)
            · rw [if_pos c7] at H
              rw [zp_icmp_ge_t (x := (zJ_rem v5 24)) (y := (σ 90 (v5 / 24).toNatClampNeg)) (t := 109) zd_245_74 rfl c7]
              exact zt_M_doubtAt_109 (hk29 := ih) H
            · rw [if_neg c7] at H
              rw [zp_icmp_ge_f (x := (zJ_rem v5 24)) (y := (σ 90 (v5 / 24).toNatClampNeg)) (t := 109) zd_245_74 rfl c7]
              rw [zs_aload_n (ls := [some (.ref 82), some (.int v1), some (.int v2), some (.int v3), some (.int v4), some (.int v5)]) zd_245_77 rfl]
              rw [zs_iload (ls := [some (.ref 82), some (.int v1), some (.int v2), some (.int v3), some (.int v4), some (.int v5)]) zd_245_78 rfl]
              rw [zs_iload (ls := [some (.ref 82), some (.int v1), some (.int v2), some (.int v3), some (.int v4), some (.int v5)]) zd_245_80 rfl]
              obtain ⟨r8, hr8, H⟩ := Option.bind_eq_some_iff.mp H
              rw [zp_callVi (x := r8) (st := [.int v5, .int v4, .ref 82]) (as := [.ref 82, .int v4, .int v5]) (rest := []) (e := 4) zd_245_82 rfl (by decide +kernel) (by decide) rfl rfl (Nat.le_of_ble_eq_true rfl) (zx_rcb_ok rfl (show 82 < 119 by decide)) (Nat.le_of_ble_eq_true rfl) rfl (by decide) (zt_M_isDoubt hr8)]
              by_cases c9 : r8 = 0
              · rw [if_pos c9] at H
                rw [zp_if_eq_t (x := r8) (t := 109) zd_245_85 rfl c9]
                exact zt_M_doubtAt_109 (hk29 := ih) H
              · rw [if_neg c9] at H
                rw [zp_if_eq_f (x := r8) (t := 109) zd_245_85 rfl c9]
                rw [zs_iload_n (ls := [some (.ref 82), some (.int v1), some (.int v2), some (.int v3), some (.int v4), some (.int v5)]) zd_245_88 rfl]
                by_cases c10 : ¬ v2 = 0
                · rw [if_pos c10] at H
                  rw [zp_if_ne_t (x := v2) (t := 106) zd_245_89 rfl c10]
                  exact zt_M_doubtAt_106 (hk29 := ih) H
                · rw [if_neg c10] at H
                  rw [zp_if_ne_f (x := v2) (t := 106) zd_245_89 rfl c10]
                  rw [zs_iload_n (ls := [some (.ref 82), some (.int v1), some (.int v2), some (.int v3), some (.int v4), some (.int v5)]) zd_245_92 rfl]
                  rw [zs_iload_n (ls := [some (.ref 82), some (.int v1), some (.int v2), some (.int v3), some (.int v4), some (.int v5)]) zd_245_93 rfl]
                  by_cases c11 : ¬ v3 = v1
                  · rw [if_pos c11] at H
                    rw [zp_icmp_ne_t (x := v3) (y := v1) (t := 106) zd_245_94 rfl c11]
                    exact zt_M_doubtAt_106 (hk29 := ih) H
                  · rw [if_neg c11] at H
                    rw [zp_icmp_ne_f (x := v3) (y := v1) (t := 106) zd_245_94 rfl c11]
                    rw [zs_bipush (z := 96) zd_245_97 (by decide)]
                    rw [zs_iload (ls := [some (.ref 82), some (.int v1), some (.int v2), some (.int v3), some (.int v4), some (.int v5)]) zd_245_99 rfl]
                    rw [zp_imul (x := 96) (y := v4) (z := (96 * v4)) zd_245_101 rfl]
                    rw [zs_iload (ls := [some (.ref 82), some (.int v1), some (.int v2), some (.int v3), some (.int v4), some (.int v5)]) zd_245_102 rfl]
                    rw [zp_iadd (x := (96 * v4)) (y := v5) (z := ((96 * v4) + v5)) zd_245_104 rfl]
                    have H := Option.some.inj H
                    subst H
                    exact zs_ireturn zd_245_105 rfl
          · rw [if_neg c6] at H
            cases H
      · rw [if_neg c4] at H
        cases H
set_option maxRecDepth 20000 in
theorem zt_M_doubtAt_5 {a b L N : Nat} : ∀ {n : Nat} {σ : zS} {τ : zT} {v1 : Int32} {v2 : Int32} {v3 : Int32} {v4 : Int32} {o5 : Option Value} {r : Int32}, zb_M_doubtAt_5 N n σ v1 v2 v3 v4 = some r → zx_go 5 245 5 [some (.ref 82), some (.int v1), some (.int v2), some (.int v3), some (.int v4), o5] [] ((119, a, b), zx_pk (zK L) 119, σ, τ, zR) = some (some (.int r), ((119, a, b), zx_pk (zK L) 119, σ, τ, zR)) := by
  intro n
  induction n with
  | zero =>
    intro _ _ _ _ _ _ _ _ H
    cases H
  | succ n ih =>
    intro σ τ v1 v2 v3 v4 o5 r H
    rw [zb_M_doubtAt_5] at H
    rw [zs_iload (ls := [some (.ref 82), some (.int v1), some (.int v2), some (.int v3), some (.int v4), o5]) zd_245_5 rfl]
    rw [zs_bipush (z := 24) zd_245_7 (by decide)]
    rw [zs_aload_n (ls := [some (.ref 82), some (.int v1), some (.int v2), some (.int v3), some (.int v4), o5]) zd_245_9 rfl]
    rw [zp_getI (n := 119) (K := zx_pk (zK L) 119) (σ := σ) (c := 12) (k := 17) (q := 82) (v := (σ 82 17)) zd_245_10 rfl rfl rfl (by decide) rfl]
    rw [zp_imul (x := 24) (y := (σ 82 17)) (z := (24 * (σ 82 17))) zd_245_13 rfl]
    by_cases c1 : (24 * (σ 82 17)) ≤ v4
    · rw [if_pos c1] at H
      rw [zp_icmp_ge_t (x := v4) (y := (24 * (σ 82 17))) (t := 121) zd_245_14 rfl c1]
      rw [zs_iload_n (ls := [some (.ref 82), some (.int v1), some (.int v2), some (.int v3), some (.int v4), o5]) zd_245_121 rfl]
      by_cases c2 : v2 = 0
      · rw [if_pos c2] at H
        rw [zp_if_eq_t (x := v2) (t := 129) zd_245_122 rfl c2]
        rw [zs_iconst (z := (-1)) zd_245_129 (by decide)]
        have H := Option.some.inj H
        subst H
        exact zs_ireturn zd_245_130 (by decide +kernel)
      · rw [if_neg c2] at H
        rw [zp_if_eq_f (x := v2) (t := 129) zd_245_122 rfl c2]
        rw [zs_iload_n (ls := [some (.ref 82), some (.int v1), some (.int v2), some (.int v3), some (.int v4), o5]) zd_245_125 rfl]
        rw [zs_goto (t := 130) zd_245_126 rfl]
        have H := Option.some.inj H
        subst H
        exact zs_ireturn zd_245_130 rfl
    · rw [if_neg c1] at H
      rw [zp_icmp_ge_f (x := v4) (y := (24 * (σ 82 17))) (t := 121) zd_245_14 rfl c1]
      rw [zs_bipush (z := 24) zd_245_17 (by decide)]
      rw [zs_iload (ls := [some (.ref 82), some (.int v1), some (.int v2), some (.int v3), some (.int v4), o5]) zd_245_19 rfl]
      rw [zs_bipush (z := 24) zd_245_21 (by decide)]
      rw [zp_idiv (x := v4) (y := 24) (z := (v4 / 24)) zd_245_23 (by decide) rfl]
      rw [zs_iconst (z := 1) zd_245_24 (by decide)]
      rw [zp_iadd (x := (v4 / 24)) (y := 1) (z := ((v4 / 24) + 1)) zd_245_25 rfl]
      rw [zp_imul (x := 24) (y := ((v4 / 24) + 1)) (z := (24 * ((v4 / 24) + 1))) zd_245_26 rfl]
      rw [zs_istore (x := (24 * ((v4 / 24) + 1))) (ls' := [some (.ref 82), some (.int v1), some (.int v2), some (.int v3), some (.int v4), some (.int (24 * ((v4 / 24) + 1)))]) zd_245_27 (Nat.le_of_ble_eq_true rfl) rfl]
      exact zt_M_doubtAt_29 (hk5 := ih) H
set_option maxRecDepth 20000 in
theorem zt_M_doubtAt {a b L N : Nat} {σ : zS} {τ : zT} {x1 : Int32} {x2 : Int32} {r : Int32} (H : zf_M_doubtAt N σ x1 x2 = some r) : zx_go 5 245 0 [some (.ref 82), some (.int x1), some (.int x2), none, none, none] [] ((119, a, b), zx_pk (zK L) 119, σ, τ, zR) = some (some (.int r), ((119, a, b), zx_pk (zK L) 119, σ, τ, zR)) := by
  unfold zf_M_doubtAt at H
  rw [zs_iconst (z := 0) zd_245_0 (by decide)]
  rw [zs_istore_n (x := 0) (ls' := [some (.ref 82), some (.int x1), some (.int x2), some (.int 0), none, none]) zd_245_1 (Nat.le_of_ble_eq_true rfl) rfl]
  rw [zs_iconst (z := 0) zd_245_2 (by decide)]
  rw [zs_istore (x := 0) (ls' := [some (.ref 82), some (.int x1), some (.int x2), some (.int 0), some (.int 0), none]) zd_245_3 (Nat.le_of_ble_eq_true rfl) rfl]
  exact zt_M_doubtAt_5  H
set_option maxRecDepth 20000 in
theorem zt_M_doubts {a b L N : Nat} {σ : zS} {τ : zT} {r : Int32 × zS} (H : zf_M_doubts N σ = some r) : zx_go 6 244 0 [some (.ref 82)] [] ((119, a, b), zx_pk (zK L) 119, σ, τ, zR) = some (some (.int r.1), ((119, a, b), zx_pk (zK L) 119, r.2, τ, zR)) := by
  unfold zf_M_doubts at H
  rw [zs_aload_n (ls := [some (.ref 82)]) zd_244_0 rfl]
  rw [zs_iconst (z := 0) zd_244_1 (by decide)]
  rw [zs_putI (n := 119) (K := zx_pk (zK L) 119) (c := 12) (k := 0) (q := 82) (x := 0) zd_244_2 rfl rfl (by decide +kernel) rfl (by decide)]
  rw [zs_aload_n (ls := [some (.ref 82)]) zd_244_5 rfl]
  rw [zp_getZ (n := 119) (K := zx_pk (zK L) 119) (σ := (zx_up σ 82 0 0)) (c := 12) (k := 21) (q := 82) (v := (σ 82 21)) zd_244_6 rfl rfl rfl (by decide) (show ((zx_up σ 82 0 0) : zS) 82 21 = (σ 82 21) from ((zx_up_nj (by decide)).trans rfl))]
  by_cases c1 : (σ 82 21) = 0
  · rw [if_pos c1] at H
    rw [zp_if_eq_t (x := (σ 82 21)) (t := 21) zd_244_9 rfl c1]
    rw [zs_bipush (z := (-101)) zd_244_21 (by decide)]
    have H := Option.some.inj H
    subst H
    exact zs_ireturn zd_244_23 (by decide +kernel)
  · rw [if_neg c1] at H
    rw [zp_if_eq_f (x := (σ 82 21)) (t := 21) zd_244_9 rfl c1]
    rw [zs_aload_n (ls := [some (.ref 82)]) zd_244_12 rfl]
    rw [zs_iconst (z := 0) zd_244_13 (by decide)]
    rw [zs_iconst (z := 1) zd_244_14 (by decide)]
    obtain ⟨r2, hr2, H⟩ := Option.bind_eq_some_iff.mp H
    rw [zp_callVi (x := r2) (st := [.int 1, .int 0, .ref 82]) (as := [.ref 82, .int 0, .int 1]) (rest := []) (e := 5) zd_244_15 rfl (by decide +kernel) (by decide) rfl rfl (Nat.le_of_ble_eq_true rfl) (zx_rcb_ok rfl (show 82 < 119 by decide)) (Nat.le_of_ble_eq_true rfl) rfl (by decide) (zt_M_doubtAt hr2)]
    rw [zs_goto (t := 23) zd_244_18 rfl]
    have H := Option.some.inj H
    subst H
    exact zs_ireturn zd_244_23 rfl
set_option maxRecDepth 20000 in
theorem zt_Numbers_get_c8_21 {a b L : Nat} {σ : zS} {τ : zT} {o0 : Option Value} {o1 : Option Value} {r : Int32} (H : zb_Numbers_get_c8_21 σ = some r) : zx_go 0 172 21 [o0, o1] [] ((119, a, b), zx_pk (zK L) 119, σ, τ, zR) = some (some (.int r), ((119, a, b), zx_pk (zK L) 119, σ, τ, zR)) := by
  unfold zb_Numbers_get_c8_21 at H
  rw [zs_iconst (z := (-1)) zd_172_21 (by decide)]
  rw [zs_goto (t := 31) zd_172_22 rfl]
  have H := Option.some.inj H
  subst H
  exact zs_ireturn zd_172_31 (by decide +kernel)
set_option maxRecDepth 20000 in
theorem zt_Numbers_get_c8 {a b L : Nat} {σ : zS} {τ : zT} {x1 : Int32} {r : Int32} (H : zf_Numbers_get_c8 σ x1 = some r) : zx_go 0 172 0 [some (.ref 79), some (.int x1)] [] ((119, a, b), zx_pk (zK L) 119, σ, τ, zR) = some (some (.int r), ((119, a, b), zx_pk (zK L) 119, σ, τ, zR)) := by
  unfold zf_Numbers_get_c8 at H
  rw [zs_iload_n (ls := [some (.ref 79), some (.int x1)]) zd_172_0 rfl]
  by_cases c1 : x1 < 0
  · rw [if_pos c1] at H
    rw [zp_if_lt_t (x := x1) (t := 21) zd_172_1 rfl c1]
    exact zt_Numbers_get_c8_21  H
  · rw [if_neg c1] at H
    rw [zp_if_lt_f (x := x1) (t := 21) zd_172_1 rfl c1]
    rw [zs_iload_n (ls := [some (.ref 79), some (.int x1)]) zd_172_4 rfl]
    rw [zs_aload_n (ls := [some (.ref 79), some (.int x1)]) zd_172_5 rfl]
    rw [zp_getI (n := 119) (K := zx_pk (zK L) 119) (σ := σ) (c := 4) (k := 1) (q := 79) (v := (σ 79 1)) zd_172_6 rfl rfl rfl (by decide) rfl]
    by_cases c2 : (σ 79 1) ≤ x1
    · rw [if_pos c2] at H
      rw [zp_icmp_ge_t (x := x1) (y := (σ 79 1)) (t := 21) zd_172_9 rfl c2]
      exact zt_Numbers_get_c8_21  H
    · rw [if_neg c2] at H
      rw [zp_icmp_ge_f (x := x1) (y := (σ 79 1)) (t := 21) zd_172_9 rfl c2]
      rw [zs_iload_n (ls := [some (.ref 79), some (.int x1)]) zd_172_12 rfl]
      rw [zs_aload_n (ls := [some (.ref 79), some (.int x1)]) zd_172_13 rfl]
      rw [zs_getR (n := 119) (K := zx_pk (zK L) 119) (ρ := zR) (c := 4) (k := 0) (q := 79) (p := 80) zd_172_14 rfl rfl rfl (by decide) rfl]
      rw [zs_arraylength (n := 119) (K := zx_pk (zK L) 119) (q := 80) (m := 3456) (z := 3456) zd_172_17 rfl (by decide) (by decide)]
      by_cases c3 : x1 < 3456
      · rw [if_pos c3] at H
        rw [zp_icmp_lt_t (x := x1) (y := 3456) (t := 25) zd_172_18 rfl c3]
        rw [zs_aload_n (ls := [some (.ref 79), some (.int x1)]) zd_172_25 rfl]
        rw [zs_getR (n := 119) (K := zx_pk (zK L) 119) (ρ := zR) (c := 4) (k := 0) (q := 79) (p := 80) zd_172_26 rfl rfl rfl (by decide) rfl]
        rw [zs_iload_n (ls := [some (.ref 79), some (.int x1)]) zd_172_29 rfl]
        by_cases c4 : 0 ≤ x1 ∧ x1 < 3456
        · rw [if_pos c4] at H
          rw [zp_iaload (n := 119) (K := zx_pk (zK L) 119) (σ := σ) (q := 80) (m := 3456) (i := x1) (k := x1.toNatClampNeg) (v := (σ 80 x1.toNatClampNeg)) zd_172_30 rfl (by decide) (zJ_in c4 rfl) rfl rfl]
          have H := Option.some.inj H
          subst H
          exact zs_ireturn zd_172_31 rfl
        · rw [if_neg c4] at H
          cases H
      · rw [if_neg c3] at H
        rw [zp_icmp_lt_f (x := x1) (y := 3456) (t := 25) zd_172_18 rfl c3]
        exact zt_Numbers_get_c8_21  H
set_option maxRecDepth 20000 in
theorem zt_X_doubt {a b L N : Nat} {σ : zS} {τ : zT} {x1 : Int32} {x2 : Int32} {r : Int32 × zS} (H : zf_X_doubt N σ x1 x2 = some r) : zx_go 33 251 0 [some (.ref 2), some (.int x1), some (.int x2)] [] ((119, a, b), zx_pk (zK L) 119, σ, τ, zR) = some (some (.int r.1), ((119, a, b), zx_pk (zK L) 119, r.2, τ, zR)) := by
  unfold zf_X_doubt at H
  rw [zs_aload_n (ls := [some (.ref 2), some (.int x1), some (.int x2)]) zd_251_0 rfl]
  rw [zp_getZ (n := 119) (K := zx_pk (zK L) 119) (σ := σ) (c := 11) (k := 13) (q := 2) (v := (σ 2 13)) zd_251_1 rfl rfl rfl (by decide) rfl]
  by_cases c1 : ¬ (σ 2 13) = 0
  · rw [if_pos c1] at H
    rw [zp_if_ne_t (x := (σ 2 13)) (t := 10) zd_251_4 rfl c1]
    rw [zs_aload_n (ls := [some (.ref 2), some (.int x1), some (.int x2)]) zd_251_10 rfl]
    rw [zs_getR (n := 119) (K := zx_pk (zK L) 119) (ρ := zR) (c := 11) (k := 9) (q := 2) (p := 76) zd_251_11 rfl rfl rfl (by decide) rfl]
    obtain ⟨r2, hr2, H⟩ := Option.bind_eq_some_iff.mp H
    rw [zp_callVv (st := [.ref 76]) (as := [.ref 76]) (rest := []) (e := 32) zd_251_14 rfl (by decide +kernel) (by decide) rfl rfl (Nat.le_of_ble_eq_true rfl) (zx_rcb_ok rfl (show 76 < 119 by decide)) (Nat.le_of_ble_eq_true rfl) rfl (by decide) (zt_Judge_prepare hr2)]
    rw [zs_aload_n (ls := [some (.ref 2), some (.int x1), some (.int x2)]) zd_251_17 rfl]
    rw [zs_getR (n := 119) (K := zx_pk (zK L) 119) (ρ := zR) (c := 11) (k := 1) (q := 2) (p := 4) zd_251_18 rfl rfl rfl (by decide) rfl]
    rw [zs_aload_n (ls := [some (.ref 2), some (.int x1), some (.int x2)]) zd_251_21 rfl]
    rw [zs_getR (n := 119) (K := zx_pk (zK L) 119) (ρ := zR) (c := 11) (k := 9) (q := 2) (p := 76) zd_251_22 rfl rfl rfl (by decide) rfl]
    rw [zs_getR (n := 119) (K := zx_pk (zK L) 119) (ρ := zR) (c := 1) (k := 3) (q := 76) (p := 79) zd_251_25 rfl rfl rfl (by decide) rfl]
    rw [zs_iload_n (ls := [some (.ref 2), some (.int x1), some (.int x2)]) zd_251_28 rfl]
    obtain ⟨r3, hr3, H⟩ := Option.bind_eq_some_iff.mp H
    rw [zp_callVi (x := r3) (st := [.int x1, .ref 79, .ref 4]) (as := [.ref 79, .int x1]) (rest := [.ref 4]) (e := 0) zd_251_29 rfl (by decide +kernel) (by decide) rfl rfl (Nat.le_of_ble_eq_true rfl) (zx_rcb_ok rfl (show 79 < 119 by decide)) (Nat.le_of_ble_eq_true rfl) rfl (by decide) (zt_Numbers_get_c8 hr3)]
    rw [zs_iload_n (ls := [some (.ref 2), some (.int x1), some (.int x2)]) zd_251_32 rfl]
    obtain ⟨r4, hr4, H⟩ := Option.bind_eq_some_iff.mp H
    rw [zp_callVi (x := r4) (st := [.int x2, .int r3, .ref 4]) (as := [.ref 4, .int r3, .int x2]) (rest := []) (e := 0) zd_251_33 rfl (by decide +kernel) (by decide) rfl rfl (Nat.le_of_ble_eq_true rfl) (zx_rcb_ok rfl (show 4 < 119 by decide)) (Nat.le_of_ble_eq_true rfl) rfl (by decide) (zt_Program_partOfPair hr4)]
    have H := Option.some.inj H
    subst H
    exact zs_ireturn zd_251_36 rfl
  · rw [if_neg c1] at H
    rw [zp_if_ne_f (x := (σ 2 13)) (t := 10) zd_251_4 rfl c1]
    rw [zs_bipush (z := (-101)) zd_251_7 (by decide)]
    have H := Option.some.inj H
    subst H
    exact zs_ireturn zd_251_9 (by decide +kernel)
set_option maxRecDepth 20000 in
theorem zt_M_doubt {a b L N : Nat} {σ : zS} {τ : zT} {x1 : Int32} {x2 : Int32} {r : Int32 × zS} (H : zf_M_doubt N σ x1 x2 = some r) : zx_go 6 252 0 [some (.ref 82), some (.int x1), some (.int x2), none] [] ((119, a, b), zx_pk (zK L) 119, σ, τ, zR) = some (some (.int r.1), ((119, a, b), zx_pk (zK L) 119, r.2, τ, zR)) := by
  unfold zf_M_doubt at H
  rw [zs_aload_n (ls := [some (.ref 82), some (.int x1), some (.int x2), none]) zd_252_0 rfl]
  rw [zs_iconst (z := 0) zd_252_1 (by decide)]
  rw [zs_putI (n := 119) (K := zx_pk (zK L) 119) (c := 12) (k := 0) (q := 82) (x := 0) zd_252_2 rfl rfl (by decide +kernel) rfl (by decide)]
  rw [zs_aload_n (ls := [some (.ref 82), some (.int x1), some (.int x2), none]) zd_252_5 rfl]
  rw [zp_getZ (n := 119) (K := zx_pk (zK L) 119) (σ := (zx_up σ 82 0 0)) (c := 12) (k := 21) (q := 82) (v := (σ 82 21)) zd_252_6 rfl rfl rfl (by decide) (show ((zx_up σ 82 0 0) : zS) 82 21 = (σ 82 21) from ((zx_up_nj (by decide)).trans rfl))]
  by_cases c1 : ¬ (σ 82 21) = 0
  · rw [if_pos c1] at H
    rw [zp_if_ne_t (x := (σ 82 21)) (t := 15) zd_252_9 rfl c1]
    rw [zs_aload_n (ls := [some (.ref 82), some (.int x1), some (.int x2), none]) zd_252_15 rfl]
    rw [zs_iload_n (ls := [some (.ref 82), some (.int x1), some (.int x2), none]) zd_252_16 rfl]
    rw [zs_iconst (z := 0) zd_252_17 (by decide)]
    obtain ⟨r2, hr2, H⟩ := Option.bind_eq_some_iff.mp H
    rw [zp_callVi (x := r2) (st := [.int 0, .int x1, .ref 82]) (as := [.ref 82, .int x1, .int 0]) (rest := []) (e := 5) zd_252_18 rfl (by decide +kernel) (by decide) rfl rfl (Nat.le_of_ble_eq_true rfl) (zx_rcb_ok rfl (show 82 < 119 by decide)) (Nat.le_of_ble_eq_true rfl) rfl (by decide) (zt_M_doubtAt hr2)]
    rw [zs_istore_n (x := r2) (ls' := [some (.ref 82), some (.int x1), some (.int x2), some (.int r2)]) zd_252_21 (Nat.le_of_ble_eq_true rfl) rfl]
    rw [zs_iload_n (ls := [some (.ref 82), some (.int x1), some (.int x2), some (.int r2)]) zd_252_22 rfl]
    rw [zs_iconst (z := (-1)) zd_252_23 (by decide)]
    by_cases c3 : ¬ r2 = (-1)
    · rw [if_pos c3] at H
      rw [zp_icmp_ne_t (x := r2) (y := (-1)) (t := 32) zd_252_24 rfl c3]
      rw [zs_aload_n (ls := [some (.ref 82), some (.int x1), some (.int x2), some (.int r2)]) zd_252_32 rfl]
      rw [zs_iload_n (ls := [some (.ref 82), some (.int x1), some (.int x2), some (.int r2)]) zd_252_33 rfl]
      rw [zs_iload_n (ls := [some (.ref 82), some (.int x1), some (.int x2), some (.int r2)]) zd_252_34 rfl]
      obtain ⟨r4, hr4, H⟩ := Option.bind_eq_some_iff.mp H
      rw [zp_callVi (x := r4) (st := [.int x2, .int r2, .ref 82]) (as := [.ref 82, .int r2, .int x2]) (rest := []) (e := 0) zd_252_35 rfl (by decide +kernel) (by decide) rfl rfl (Nat.le_of_ble_eq_true rfl) (zx_rcb_ok rfl (show 82 < 119 by decide)) (Nat.le_of_ble_eq_true rfl) rfl (by decide) (zt_M_ofPair hr4)]
      have H := Option.some.inj H
      subst H
      exact zs_ireturn zd_252_38 rfl
    · rw [if_neg c3] at H
      rw [zp_icmp_ne_f (x := r2) (y := (-1)) (t := 32) zd_252_24 rfl c3]
      rw [zs_bipush (z := (-102)) zd_252_27 (by decide)]
      rw [zs_goto (t := 38) zd_252_29 rfl]
      have H := Option.some.inj H
      subst H
      exact zs_ireturn zd_252_38 (by decide +kernel)
  · rw [if_neg c1] at H
    rw [zp_if_ne_f (x := (σ 82 21)) (t := 15) zd_252_9 rfl c1]
    rw [zs_bipush (z := (-101)) zd_252_12 (by decide)]
    have H := Option.some.inj H
    subst H
    exact zs_ireturn zd_252_14 (by decide +kernel)
set_option maxRecDepth 20000 in
theorem zt_X_meet {a b L N : Nat} {σ : zS} {τ : zT} {x1 : Int32} {x2 : Int32} {x3 : Int32} {x4 : Int32} {r : Int32 × zS} (H : zf_X_meet N σ x1 x2 x3 x4 = some r) : zx_go 33 253 0 [some (.ref 2), some (.int x1), some (.int x2), some (.int x3), some (.int x4)] [] ((119, a, b), zx_pk (zK L) 119, σ, τ, zR) = some (some (.int r.1), ((119, a, b), zx_pk (zK L) 119, r.2, τ, zR)) := by
  unfold zf_X_meet at H
  rw [zs_aload_n (ls := [some (.ref 2), some (.int x1), some (.int x2), some (.int x3), some (.int x4)]) zd_253_0 rfl]
  rw [zp_getZ (n := 119) (K := zx_pk (zK L) 119) (σ := σ) (c := 11) (k := 13) (q := 2) (v := (σ 2 13)) zd_253_1 rfl rfl rfl (by decide) rfl]
  by_cases c1 : ¬ (σ 2 13) = 0
  · rw [if_pos c1] at H
    rw [zp_if_ne_t (x := (σ 2 13)) (t := 10) zd_253_4 rfl c1]
    rw [zs_iload_n (ls := [some (.ref 2), some (.int x1), some (.int x2), some (.int x3), some (.int x4)]) zd_253_10 rfl]
    rw [zs_iload_n (ls := [some (.ref 2), some (.int x1), some (.int x2), some (.int x3), some (.int x4)]) zd_253_11 rfl]
    by_cases c2 : x1 = x3
    · rw [if_pos c2] at H
      rw [zp_icmp_eq_t (x := x1) (y := x3) (t := 44) zd_253_12 rfl c2]
      rw [zs_bipush (z := (-102)) zd_253_44 (by decide)]
      have H := Option.some.inj H
      subst H
      exact zs_ireturn zd_253_46 (by decide +kernel)
    · rw [if_neg c2] at H
      rw [zp_icmp_eq_f (x := x1) (y := x3) (t := 44) zd_253_12 rfl c2]
      rw [zs_aload_n (ls := [some (.ref 2), some (.int x1), some (.int x2), some (.int x3), some (.int x4)]) zd_253_15 rfl]
      rw [zs_getR (n := 119) (K := zx_pk (zK L) 119) (ρ := zR) (c := 11) (k := 1) (q := 2) (p := 4) zd_253_16 rfl rfl rfl (by decide) rfl]
      rw [zs_iload_n (ls := [some (.ref 2), some (.int x1), some (.int x2), some (.int x3), some (.int x4)]) zd_253_19 rfl]
      rw [zs_iload_n (ls := [some (.ref 2), some (.int x1), some (.int x2), some (.int x3), some (.int x4)]) zd_253_20 rfl]
      obtain ⟨r3, hr3, H⟩ := Option.bind_eq_some_iff.mp H
      rw [zp_callVi (x := r3) (st := [.int x2, .int x1, .ref 4]) (as := [.ref 4, .int x1, .int x2]) (rest := []) (e := 0) zd_253_21 rfl (by decide +kernel) (by decide) rfl rfl (Nat.le_of_ble_eq_true rfl) (zx_rcb_ok rfl (show 4 < 119 by decide)) (Nat.le_of_ble_eq_true rfl) rfl (by decide) (zt_Program_slotOf hr3)]
      rw [zs_bipush (z := 96) zd_253_24 (by decide)]
      by_cases c4 : r3 = 96
      · rw [if_pos c4] at H
        rw [zp_icmp_eq_t (x := r3) (y := 96) (t := 44) zd_253_26 rfl c4]
        rw [zs_bipush (z := (-102)) zd_253_44 (by decide)]
        have H := Option.some.inj H
        subst H
        exact zs_ireturn zd_253_46 (by decide +kernel)
      · rw [if_neg c4] at H
        rw [zp_icmp_eq_f (x := r3) (y := 96) (t := 44) zd_253_26 rfl c4]
        rw [zs_aload_n (ls := [some (.ref 2), some (.int x1), some (.int x2), some (.int x3), some (.int x4)]) zd_253_29 rfl]
        rw [zs_getR (n := 119) (K := zx_pk (zK L) 119) (ρ := zR) (c := 11) (k := 1) (q := 2) (p := 4) zd_253_30 rfl rfl rfl (by decide) rfl]
        rw [zs_iload_n (ls := [some (.ref 2), some (.int x1), some (.int x2), some (.int x3), some (.int x4)]) zd_253_33 rfl]
        rw [zs_iload (ls := [some (.ref 2), some (.int x1), some (.int x2), some (.int x3), some (.int x4)]) zd_253_34 rfl]
        obtain ⟨r5, hr5, H⟩ := Option.bind_eq_some_iff.mp H
        rw [zp_callVi (x := r5) (st := [.int x4, .int x3, .ref 4]) (as := [.ref 4, .int x3, .int x4]) (rest := []) (e := 0) zd_253_36 rfl (by decide +kernel) (by decide) rfl rfl (Nat.le_of_ble_eq_true rfl) (zx_rcb_ok rfl (show 4 < 119 by decide)) (Nat.le_of_ble_eq_true rfl) rfl (by decide) (zt_Program_slotOf hr5)]
        rw [zs_bipush (z := 96) zd_253_39 (by decide)]
        by_cases c6 : ¬ r5 = 96
        · rw [if_pos c6] at H
          rw [zp_icmp_ne_t (x := r5) (y := 96) (t := 47) zd_253_41 rfl c6]
          rw [zs_aload_n (ls := [some (.ref 2), some (.int x1), some (.int x2), some (.int x3), some (.int x4)]) zd_253_47 rfl]
          rw [zs_getR (n := 119) (K := zx_pk (zK L) 119) (ρ := zR) (c := 11) (k := 9) (q := 2) (p := 76) zd_253_48 rfl rfl rfl (by decide) rfl]
          obtain ⟨r7, hr7, H⟩ := Option.bind_eq_some_iff.mp H
          rw [zp_callVv (st := [.ref 76]) (as := [.ref 76]) (rest := []) (e := 32) zd_253_51 rfl (by decide +kernel) (by decide) rfl rfl (Nat.le_of_ble_eq_true rfl) (zx_rcb_ok rfl (show 76 < 119 by decide)) (Nat.le_of_ble_eq_true rfl) rfl (by decide) (zt_Judge_prepare hr7)]
          rw [zs_aload_n (ls := [some (.ref 2), some (.int x1), some (.int x2), some (.int x3), some (.int x4)]) zd_253_54 rfl]
          rw [zs_getR (n := 119) (K := zx_pk (zK L) 119) (ρ := zR) (c := 11) (k := 9) (q := 2) (p := 76) zd_253_55 rfl rfl rfl (by decide) rfl]
          rw [zs_iload_n (ls := [some (.ref 2), some (.int x1), some (.int x2), some (.int x3), some (.int x4)]) zd_253_58 rfl]
          rw [zs_iload_n (ls := [some (.ref 2), some (.int x1), some (.int x2), some (.int x3), some (.int x4)]) zd_253_59 rfl]
          rw [zs_iload_n (ls := [some (.ref 2), some (.int x1), some (.int x2), some (.int x3), some (.int x4)]) zd_253_60 rfl]
          rw [zs_iload (ls := [some (.ref 2), some (.int x1), some (.int x2), some (.int x3), some (.int x4)]) zd_253_61 rfl]
          obtain ⟨r8, hr8, H⟩ := Option.bind_eq_some_iff.mp H
          rw [zp_callVi (x := r8) (st := [.int x4, .int x3, .int x2, .int x1, .ref 76]) (as := [.ref 76, .int x1, .int x2, .int x3, .int x4]) (rest := []) (e := 0) zd_253_63 rfl (by decide +kernel) (by decide) rfl rfl (Nat.le_of_ble_eq_true rfl) (zx_rcb_ok rfl (show 76 < 119 by decide)) (Nat.le_of_ble_eq_true rfl) rfl (by decide) (zt_Judge_canMeet hr8)]
          by_cases c9 : r8 = 0
          · rw [if_pos c9] at H
            rw [zp_if_eq_t (x := r8) (t := 73) zd_253_66 rfl c9]
            rw [zs_iconst (z := 0) zd_253_73 (by decide)]
            have H := Option.some.inj H
            subst H
            exact zs_ireturn zd_253_74 (by decide +kernel)
          · rw [if_neg c9] at H
            rw [zp_if_eq_f (x := r8) (t := 73) zd_253_66 rfl c9]
            rw [zs_iconst (z := 1) zd_253_69 (by decide)]
            rw [zs_goto (t := 74) zd_253_70 rfl]
            have H := Option.some.inj H
            subst H
            exact zs_ireturn zd_253_74 (by decide +kernel)
        · rw [if_neg c6] at H
          rw [zp_icmp_ne_f (x := r5) (y := 96) (t := 47) zd_253_41 rfl c6]
          rw [zs_bipush (z := (-102)) zd_253_44 (by decide)]
          have H := Option.some.inj H
          subst H
          exact zs_ireturn zd_253_46 (by decide +kernel)
  · rw [if_neg c1] at H
    rw [zp_if_ne_f (x := (σ 2 13)) (t := 10) zd_253_4 rfl c1]
    rw [zs_bipush (z := (-101)) zd_253_7 (by decide)]
    have H := Option.some.inj H
    subst H
    exact zs_ireturn zd_253_9 (by decide +kernel)
set_option maxRecDepth 20000 in
theorem zt_M_meet {a b L N : Nat} {σ : zS} {τ : zT} {x1 : Int32} {x2 : Int32} {x3 : Int32} {x4 : Int32} {r : Int32 × zS} (H : zf_M_meet N σ x1 x2 x3 x4 = some r) : zx_go 4 254 0 [some (.ref 82), some (.int x1), some (.int x2), some (.int x3), some (.int x4)] [] ((119, a, b), zx_pk (zK L) 119, σ, τ, zR) = some (some (.int r.1), ((119, a, b), zx_pk (zK L) 119, r.2, τ, zR)) := by
  unfold zf_M_meet at H
  rw [zs_aload_n (ls := [some (.ref 82), some (.int x1), some (.int x2), some (.int x3), some (.int x4)]) zd_254_0 rfl]
  rw [zs_iconst (z := 0) zd_254_1 (by decide)]
  rw [zs_putI (n := 119) (K := zx_pk (zK L) 119) (c := 12) (k := 0) (q := 82) (x := 0) zd_254_2 rfl rfl (by decide +kernel) rfl (by decide)]
  rw [zs_aload_n (ls := [some (.ref 82), some (.int x1), some (.int x2), some (.int x3), some (.int x4)]) zd_254_5 rfl]
  rw [zp_getZ (n := 119) (K := zx_pk (zK L) 119) (σ := (zx_up σ 82 0 0)) (c := 12) (k := 21) (q := 82) (v := (σ 82 21)) zd_254_6 rfl rfl rfl (by decide) (show ((zx_up σ 82 0 0) : zS) 82 21 = (σ 82 21) from ((zx_up_nj (by decide)).trans rfl))]
  by_cases c1 : ¬ (σ 82 21) = 0
  · rw [if_pos c1] at H
    rw [zp_if_ne_t (x := (σ 82 21)) (t := 15) zd_254_9 rfl c1]
    rw [zs_aload_n (ls := [some (.ref 82), some (.int x1), some (.int x2), some (.int x3), some (.int x4)]) zd_254_15 rfl]
    rw [zs_iload_n (ls := [some (.ref 82), some (.int x1), some (.int x2), some (.int x3), some (.int x4)]) zd_254_16 rfl]
    rw [zs_iload_n (ls := [some (.ref 82), some (.int x1), some (.int x2), some (.int x3), some (.int x4)]) zd_254_17 rfl]
    obtain ⟨r2, hr2, H⟩ := Option.bind_eq_some_iff.mp H
    rw [zp_callVi (x := r2) (st := [.int x2, .int x1, .ref 82]) (as := [.ref 82, .int x1, .int x2]) (rest := []) (e := 1) zd_254_18 rfl (by decide +kernel) (by decide) rfl rfl (Nat.le_of_ble_eq_true rfl) (zx_rcb_ok rfl (show 82 < 119 by decide)) (Nat.le_of_ble_eq_true rfl) rfl (by decide) (zt_M_isStep hr2)]
    by_cases c3 : r2 = 0
    · rw [if_pos c3] at H
      rw [zp_if_eq_t (x := r2) (t := 39) zd_254_21 rfl c3]
      rw [zs_bipush (z := (-102)) zd_254_39 (by decide)]
      have H := Option.some.inj H
      subst H
      exact zs_ireturn zd_254_41 (by decide +kernel)
    · rw [if_neg c3] at H
      rw [zp_if_eq_f (x := r2) (t := 39) zd_254_21 rfl c3]
      rw [zs_aload_n (ls := [some (.ref 82), some (.int x1), some (.int x2), some (.int x3), some (.int x4)]) zd_254_24 rfl]
      rw [zs_iload_n (ls := [some (.ref 82), some (.int x1), some (.int x2), some (.int x3), some (.int x4)]) zd_254_25 rfl]
      rw [zs_iload (ls := [some (.ref 82), some (.int x1), some (.int x2), some (.int x3), some (.int x4)]) zd_254_26 rfl]
      obtain ⟨r4, hr4, H⟩ := Option.bind_eq_some_iff.mp H
      rw [zp_callVi (x := r4) (st := [.int x4, .int x3, .ref 82]) (as := [.ref 82, .int x3, .int x4]) (rest := []) (e := 1) zd_254_28 rfl (by decide +kernel) (by decide) rfl rfl (Nat.le_of_ble_eq_true rfl) (zx_rcb_ok rfl (show 82 < 119 by decide)) (Nat.le_of_ble_eq_true rfl) rfl (by decide) (zt_M_isStep hr4)]
      by_cases c5 : r4 = 0
      · rw [if_pos c5] at H
        rw [zp_if_eq_t (x := r4) (t := 39) zd_254_31 rfl c5]
        rw [zs_bipush (z := (-102)) zd_254_39 (by decide)]
        have H := Option.some.inj H
        subst H
        exact zs_ireturn zd_254_41 (by decide +kernel)
      · rw [if_neg c5] at H
        rw [zp_if_eq_f (x := r4) (t := 39) zd_254_31 rfl c5]
        rw [zs_iload_n (ls := [some (.ref 82), some (.int x1), some (.int x2), some (.int x3), some (.int x4)]) zd_254_34 rfl]
        rw [zs_iload_n (ls := [some (.ref 82), some (.int x1), some (.int x2), some (.int x3), some (.int x4)]) zd_254_35 rfl]
        by_cases c6 : ¬ x1 = x3
        · rw [if_pos c6] at H
          rw [zp_icmp_ne_t (x := x1) (y := x3) (t := 42) zd_254_36 rfl c6]
          rw [zs_aload_n (ls := [some (.ref 82), some (.int x1), some (.int x2), some (.int x3), some (.int x4)]) zd_254_42 rfl]
          rw [zs_iload_n (ls := [some (.ref 82), some (.int x1), some (.int x2), some (.int x3), some (.int x4)]) zd_254_43 rfl]
          rw [zs_iload_n (ls := [some (.ref 82), some (.int x1), some (.int x2), some (.int x3), some (.int x4)]) zd_254_44 rfl]
          rw [zs_iload_n (ls := [some (.ref 82), some (.int x1), some (.int x2), some (.int x3), some (.int x4)]) zd_254_45 rfl]
          rw [zs_iload (ls := [some (.ref 82), some (.int x1), some (.int x2), some (.int x3), some (.int x4)]) zd_254_46 rfl]
          obtain ⟨r7, hr7, H⟩ := Option.bind_eq_some_iff.mp H
          rw [zp_callVi (x := r7) (st := [.int x4, .int x3, .int x2, .int x1, .ref 82]) (as := [.ref 82, .int x1, .int x2, .int x3, .int x4]) (rest := []) (e := 3) zd_254_48 rfl (by decide +kernel) (by decide) rfl rfl (Nat.le_of_ble_eq_true rfl) (zx_rcb_ok rfl (show 82 < 119 by decide)) (Nat.le_of_ble_eq_true rfl) rfl (by decide) (zt_M_meets hr7)]
          by_cases c8 : r7 = 0
          · rw [if_pos c8] at H
            rw [zp_if_eq_t (x := r7) (t := 58) zd_254_51 rfl c8]
            rw [zs_iconst (z := 0) zd_254_58 (by decide)]
            have H := Option.some.inj H
            subst H
            exact zs_ireturn zd_254_59 (by decide +kernel)
          · rw [if_neg c8] at H
            rw [zp_if_eq_f (x := r7) (t := 58) zd_254_51 rfl c8]
            rw [zs_iconst (z := 1) zd_254_54 (by decide)]
            rw [zs_goto (t := 59) zd_254_55 rfl]
            have H := Option.some.inj H
            subst H
            exact zs_ireturn zd_254_59 (by decide +kernel)
        · rw [if_neg c6] at H
          rw [zp_icmp_ne_f (x := x1) (y := x3) (t := 42) zd_254_36 rfl c6]
          rw [zs_bipush (z := (-102)) zd_254_39 (by decide)]
          have H := Option.some.inj H
          subst H
          exact zs_ireturn zd_254_41 (by decide +kernel)
  · rw [if_neg c1] at H
    rw [zp_if_ne_f (x := (σ 82 21)) (t := 15) zd_254_9 rfl c1]
    rw [zs_bipush (z := (-101)) zd_254_12 (by decide)]
    have H := Option.some.inj H
    subst H
    exact zs_ireturn zd_254_14 (by decide +kernel)
set_option maxRecDepth 20000 in
theorem zt_Judge_guardsOf_103 {a b L N : Nat} {k14 : zS → Int32 → Int32 → Int32 → Option (Int32)} (hk14 : ∀ {σ : zS} {τ : zT} {v1 : Int32} {v2 : Int32} {v3 : Int32} {o4 : Option Value} {o5 : Option Value} {r : Int32}, k14 σ v1 v2 v3 = some r → zx_go 1 256 14 [some (.ref 76), some (.int v1), some (.int v2), some (.int v3), o4, o5] [] ((119, a, b), zx_pk (zK L) 119, σ, τ, zR) = some (some (.int r), ((119, a, b), zx_pk (zK L) 119, σ, τ, zR))) {σ : zS} {τ : zT} {v1 : Int32} {v2 : Int32} {v3 : Int32} {o4 : Option Value} {o5 : Option Value} {r : Int32} (H : zb_Judge_guardsOf_103 k14 N σ v1 v2 v3 = some r) : zx_go 1 256 103 [some (.ref 76), some (.int v1), some (.int v2), some (.int v3), o4, o5] [] ((119, a, b), zx_pk (zK L) 119, σ, τ, zR) = some (some (.int r), ((119, a, b), zx_pk (zK L) 119, σ, τ, zR)) := by
  unfold zb_Judge_guardsOf_103 at H
  rw [zs_iinc (ls := [some (.ref 76), some (.int v1), some (.int v2), some (.int v3), o4, o5]) (x := v3) (z := (v3 + 1)) (ls' := [some (.ref 76), some (.int v1), some (.int v2), some (.int (v3 + 1)), o4, o5]) zd_256_103 rfl rfl rfl]
  rw [zs_goto (t := 14) zd_256_106 rfl]
  exact hk14 H
set_option maxRecDepth 20000 in
theorem zt_Judge_guardsOf_69 {a b L N : Nat} {k14 : zS → Int32 → Int32 → Int32 → Option (Int32)} (hk14 : ∀ {σ : zS} {τ : zT} {v1 : Int32} {v2 : Int32} {v3 : Int32} {o4 : Option Value} {o5 : Option Value} {r : Int32}, k14 σ v1 v2 v3 = some r → zx_go 1 256 14 [some (.ref 76), some (.int v1), some (.int v2), some (.int v3), o4, o5] [] ((119, a, b), zx_pk (zK L) 119, σ, τ, zR) = some (some (.int r), ((119, a, b), zx_pk (zK L) 119, σ, τ, zR))) {σ : zS} {τ : zT} {v1 : Int32} {v2 : Int32} {v3 : Int32} {v4 : Int32} {s0 : Int32} {o5 : Option Value} {r : Int32} (H : zb_Judge_guardsOf_69 k14 N σ v1 v2 v3 v4 s0 = some r) : zx_go 1 256 69 [some (.ref 76), some (.int v1), some (.int v2), some (.int v3), some (.int v4), o5] [.int s0] ((119, a, b), zx_pk (zK L) 119, σ, τ, zR) = some (some (.int r), ((119, a, b), zx_pk (zK L) 119, σ, τ, zR)) := by
  unfold zb_Judge_guardsOf_69 at H
  rw [zs_istore (x := s0) (ls' := [some (.ref 76), some (.int v1), some (.int v2), some (.int v3), some (.int v4), some (.int s0)]) zd_256_69 (Nat.le_of_ble_eq_true rfl) rfl]
  rw [zs_iload (ls := [some (.ref 76), some (.int v1), some (.int v2), some (.int v3), some (.int v4), some (.int s0)]) zd_256_71 rfl]
  by_cases c5 : s0 = 0
  · rw [if_pos c5] at H
    rw [zp_if_eq_t (x := s0) (t := 103) zd_256_73 rfl c5]
    exact zt_Judge_guardsOf_103 (hk14 := hk14) H
  · rw [if_neg c5] at H
    rw [zp_if_eq_f (x := s0) (t := 103) zd_256_73 rfl c5]
    rw [zs_aload_n (ls := [some (.ref 76), some (.int v1), some (.int v2), some (.int v3), some (.int v4), some (.int s0)]) zd_256_76 rfl]
    rw [zs_getR (n := 119) (K := zx_pk (zK L) 119) (ρ := zR) (c := 1) (k := 0) (q := 76) (p := 4) zd_256_77 rfl rfl rfl (by decide) rfl]
    rw [zs_getR (n := 119) (K := zx_pk (zK L) 119) (ρ := zR) (c := 6) (k := 10) (q := 4) (p := 8) zd_256_80 rfl rfl rfl (by decide) rfl]
    rw [zs_iload (ls := [some (.ref 76), some (.int v1), some (.int v2), some (.int v3), some (.int v4), some (.int s0)]) zd_256_83 rfl]
    by_cases c6 : 0 ≤ v4 ∧ v4 < 97
    · rw [if_pos c6] at H
      rw [zp_iaload (n := 119) (K := zx_pk (zK L) 119) (σ := σ) (q := 8) (m := 97) (i := v4) (k := v4.toNatClampNeg) (v := (σ 8 v4.toNatClampNeg)) zd_256_85 rfl (by decide) (zJ_in c6 rfl) rfl rfl]
      rw [zs_iload_n (ls := [some (.ref 76), some (.int v1), some (.int v2), some (.int v3), some (.int v4), some (.int s0)]) zd_256_86 rfl]
      by_cases c7 : ¬ (σ 8 v4.toNatClampNeg) = v1
      · rw [if_pos c7] at H
        rw [zp_icmp_ne_t (x := (σ 8 v4.toNatClampNeg)) (y := v1) (t := 103) zd_256_87 rfl c7]
        exact zt_Judge_guardsOf_103 (hk14 := hk14) H
      · rw [if_neg c7] at H
        rw [zp_icmp_ne_f (x := (σ 8 v4.toNatClampNeg)) (y := v1) (t := 103) zd_256_87 rfl c7]
        rw [zs_iload_n (ls := [some (.ref 76), some (.int v1), some (.int v2), some (.int v3), some (.int v4), some (.int s0)]) zd_256_90 rfl]
        rw [zs_aload_n (ls := [some (.ref 76), some (.int v1), some (.int v2), some (.int v3), some (.int v4), some (.int s0)]) zd_256_91 rfl]
        rw [zs_getR (n := 119) (K := zx_pk (zK L) 119) (ρ := zR) (c := 1) (k := 0) (q := 76) (p := 4) zd_256_92 rfl rfl rfl (by decide) rfl]
        rw [zs_getR (n := 119) (K := zx_pk (zK L) 119) (ρ := zR) (c := 6) (k := 13) (q := 4) (p := 11) zd_256_95 rfl rfl rfl (by decide) rfl]
        rw [zs_iload (ls := [some (.ref 76), some (.int v1), some (.int v2), some (.int v3), some (.int v4), some (.int s0)]) zd_256_98 rfl]
        by_cases c8 : 0 ≤ v4 ∧ v4 < 97
        · rw [if_pos c8] at H
          rw [zp_iaload (n := 119) (K := zx_pk (zK L) 119) (σ := σ) (q := 11) (m := 97) (i := v4) (k := v4.toNatClampNeg) (v := (σ 11 v4.toNatClampNeg)) zd_256_100 rfl (by decide) (zJ_in c8 rfl) rfl rfl]
          rw [zp_iand (x := v2) (y := (σ 11 v4.toNatClampNeg)) (z := (v2 &&& (σ 11 v4.toNatClampNeg))) zd_256_101 rfl]
          rw [zs_istore_n (x := (v2 &&& (σ 11 v4.toNatClampNeg))) (ls' := [some (.ref 76), some (.int v1), some (.int (v2 &&& (σ 11 v4.toNatClampNeg))), some (.int v3), some (.int v4), some (.int s0)]) zd_256_102 (Nat.le_of_ble_eq_true rfl) rfl]
          exact zt_Judge_guardsOf_103 (hk14 := hk14) H
        · rw [if_neg c8] at H
          cases H
    · rw [if_neg c6] at H
      cases H
set_option maxRecDepth 20000 in
theorem zt_Judge_guardsOf_64 {a b L N : Nat} {k14 : zS → Int32 → Int32 → Int32 → Option (Int32)} (hk14 : ∀ {σ : zS} {τ : zT} {v1 : Int32} {v2 : Int32} {v3 : Int32} {o4 : Option Value} {o5 : Option Value} {r : Int32}, k14 σ v1 v2 v3 = some r → zx_go 1 256 14 [some (.ref 76), some (.int v1), some (.int v2), some (.int v3), o4, o5] [] ((119, a, b), zx_pk (zK L) 119, σ, τ, zR) = some (some (.int r), ((119, a, b), zx_pk (zK L) 119, σ, τ, zR))) {σ : zS} {τ : zT} {v1 : Int32} {v2 : Int32} {v3 : Int32} {v4 : Int32} {o5 : Option Value} {r : Int32} (H : zb_Judge_guardsOf_64 k14 N σ v1 v2 v3 v4 = some r) : zx_go 1 256 64 [some (.ref 76), some (.int v1), some (.int v2), some (.int v3), some (.int v4), o5] [] ((119, a, b), zx_pk (zK L) 119, σ, τ, zR) = some (some (.int r), ((119, a, b), zx_pk (zK L) 119, σ, τ, zR)) := by
  unfold zb_Judge_guardsOf_64 at H
  rw [zs_iconst (z := 1) zd_256_64 (by decide)]
  rw [zs_goto (t := 69) zd_256_65 rfl]
  exact zt_Judge_guardsOf_69 (hk14 := hk14) H
set_option maxRecDepth 20000 in
theorem zt_Judge_guardsOf_14 {a b L N : Nat} : ∀ {n : Nat} {σ : zS} {τ : zT} {v1 : Int32} {v2 : Int32} {v3 : Int32} {o4 : Option Value} {o5 : Option Value} {r : Int32}, zb_Judge_guardsOf_14 N n σ v1 v2 v3 = some r → zx_go 1 256 14 [some (.ref 76), some (.int v1), some (.int v2), some (.int v3), o4, o5] [] ((119, a, b), zx_pk (zK L) 119, σ, τ, zR) = some (some (.int r), ((119, a, b), zx_pk (zK L) 119, σ, τ, zR)) := by
  intro n
  induction n with
  | zero =>
    intro _ _ _ _ _ _ _ _ H
    cases H
  | succ n ih =>
    intro σ τ v1 v2 v3 o4 o5 r H
    rw [zb_Judge_guardsOf_14] at H
    rw [zs_iload_n (ls := [some (.ref 76), some (.int v1), some (.int v2), some (.int v3), o4, o5]) zd_256_14 rfl]
    rw [zs_bipush (z := 96) zd_256_15 (by decide)]
    by_cases c1 : 96 ≤ v3
    · rw [if_pos c1] at H
      rw [zp_icmp_ge_t (x := v3) (y := 96) (t := 109) zd_256_17 rfl c1]
      rw [zs_iload_n (ls := [some (.ref 76), some (.int v1), some (.int v2), some (.int v3), o4, o5]) zd_256_109 rfl]
      have H := Option.some.inj H
      subst H
      exact zs_ireturn zd_256_110 rfl
    · rw [if_neg c1] at H
      rw [zp_icmp_ge_f (x := v3) (y := 96) (t := 109) zd_256_17 rfl c1]
      rw [zs_aload_n (ls := [some (.ref 76), some (.int v1), some (.int v2), some (.int v3), o4, o5]) zd_256_20 rfl]
      rw [zs_getR (n := 119) (K := zx_pk (zK L) 119) (ρ := zR) (c := 1) (k := 0) (q := 76) (p := 4) zd_256_21 rfl rfl rfl (by decide) rfl]
      rw [zs_iload_n (ls := [some (.ref 76), some (.int v1), some (.int v2), some (.int v3), o4, o5]) zd_256_24 rfl]
      rw [zs_bipush (z := 24) zd_256_25 (by decide)]
      rw [zp_idiv (x := v3) (y := 24) (z := (v3 / 24)) zd_256_27 (by decide) rfl]
      rw [zs_iload_n (ls := [some (.ref 76), some (.int v1), some (.int v2), some (.int v3), o4, o5]) zd_256_28 rfl]
      rw [zs_bipush (z := 24) zd_256_29 (by decide)]
      rw [zp_irem (x := v3) (y := 24) (z := (zJ_rem v3 24)) zd_256_31 (by decide) rfl]
      obtain ⟨r2, hr2, H⟩ := Option.bind_eq_some_iff.mp H
      rw [zp_callVi (x := r2) (st := [.int (zJ_rem v3 24), .int (v3 / 24), .ref 4]) (as := [.ref 4, .int (v3 / 24), .int (zJ_rem v3 24)]) (rest := []) (e := 0) zd_256_32 rfl (by decide +kernel) (by decide) rfl rfl (Nat.le_of_ble_eq_true rfl) (zx_rcb_ok rfl (show 4 < 119 by decide)) (Nat.le_of_ble_eq_true rfl) rfl (by decide) (zt_Program_slotOf hr2)]
      rw [zs_istore (x := r2) (ls' := [some (.ref 76), some (.int v1), some (.int v2), some (.int v3), some (.int r2), o5]) zd_256_35 (Nat.le_of_ble_eq_true rfl) rfl]
      rw [zs_aload_n (ls := [some (.ref 76), some (.int v1), some (.int v2), some (.int v3), some (.int r2), o5]) zd_256_37 rfl]
      rw [zs_getR (n := 119) (K := zx_pk (zK L) 119) (ρ := zR) (c := 1) (k := 0) (q := 76) (p := 4) zd_256_38 rfl rfl rfl (by decide) rfl]
      rw [zs_getR (n := 119) (K := zx_pk (zK L) 119) (ρ := zR) (c := 6) (k := 9) (q := 4) (p := 7) zd_256_41 rfl rfl rfl (by decide) rfl]
      rw [zs_iload (ls := [some (.ref 76), some (.int v1), some (.int v2), some (.int v3), some (.int r2), o5]) zd_256_44 rfl]
      by_cases c3 : 0 ≤ r2 ∧ r2 < 97
      · rw [if_pos c3] at H
        rw [zp_iaload (n := 119) (K := zx_pk (zK L) 119) (σ := σ) (q := 7) (m := 97) (i := r2) (k := r2.toNatClampNeg) (v := (σ 7 r2.toNatClampNeg)) zd_256_46 rfl (by decide) (zJ_in c3 rfl) rfl rfl]
        by_cases c4 : (σ 7 r2.toNatClampNeg) = 0
        · rw [if_pos c4] at H
          rw [zp_if_eq_t (x := (σ 7 r2.toNatClampNeg)) (t := 64) zd_256_47 rfl c4]
          exact zt_Judge_guardsOf_64 (hk14 := ih) H
        · rw [if_neg c4] at H
          rw [zp_if_eq_f (x := (σ 7 r2.toNatClampNeg)) (t := 64) zd_256_47 rfl c4]
          rw [zs_aload_n (ls := [some (.ref 76), some (.int v1), some (.int v2), some (.int v3), some (.int r2), o5]) zd_256_50 rfl]
          rw [zs_getR (n := 119) (K := zx_pk (zK L) 119) (ρ := zR) (c := 1) (k := 0) (q := 76) (p := 4) zd_256_51 rfl rfl rfl (by decide) rfl]
          rw [zs_getR (n := 119) (K := zx_pk (zK L) 119) (ρ := zR) (c := 6) (k := 9) (q := 4) (p := 7) zd_256_54 rfl rfl rfl (by decide) rfl]
          rw [zs_iload (ls := [some (.ref 76), some (.int v1), some (.int v2), some (.int v3), some (.int r2), o5]) zd_256_57 rfl]
          by_cases c9 : 0 ≤ r2 ∧ r2 < 97
          · rw [if_pos c9] at H
            rw [zp_iaload (n := 119) (K := zx_pk (zK L) 119) (σ := σ) (q := 7) (m := 97) (i := r2) (k := r2.toNatClampNeg) (v := (σ 7 r2.toNatClampNeg)) zd_256_59 rfl (by decide) (zJ_in c9 rfl) rfl rfl]
            rw [zs_iconst (z := 1) zd_256_60 (by decide)]
            by_cases c10 : ¬ (σ 7 r2.toNatClampNeg) = 1
            · rw [if_pos c10] at H
              rw [zp_icmp_ne_t (x := (σ 7 r2.toNatClampNeg)) (y := 1) (t := 68) zd_256_61 rfl c10]
              rw [zs_iconst (z := 0) zd_256_68 (by decide)]
              exact zt_Judge_guardsOf_69 (hk14 := ih) H
            · rw [if_neg c10] at H
              rw [zp_icmp_ne_f (x := (σ 7 r2.toNatClampNeg)) (y := 1) (t := 68) zd_256_61 rfl c10]
              exact zt_Judge_guardsOf_64 (hk14 := ih) H
          · rw [if_neg c9] at H
            cases H
      · rw [if_neg c3] at H
        cases H
set_option maxRecDepth 20000 in
theorem zt_Judge_guardsOf {a b L N : Nat} {σ : zS} {τ : zT} {x1 : Int32} {r : Int32} (H : zf_Judge_guardsOf N σ x1 = some r) : zx_go 1 256 0 [some (.ref 76), some (.int x1), none, none, none, none] [] ((119, a, b), zx_pk (zK L) 119, σ, τ, zR) = some (some (.int r), ((119, a, b), zx_pk (zK L) 119, σ, τ, zR)) := by
  unfold zf_Judge_guardsOf at H
  rw [zs_iconst (z := 1) zd_256_0 (by decide)]
  rw [zs_aload_n (ls := [some (.ref 76), some (.int x1), none, none, none, none]) zd_256_1 rfl]
  rw [zs_getR (n := 119) (K := zx_pk (zK L) 119) (ρ := zR) (c := 1) (k := 0) (q := 76) (p := 4) zd_256_2 rfl rfl rfl (by decide) rfl]
  rw [zp_getI (n := 119) (K := zx_pk (zK L) 119) (σ := σ) (c := 6) (k := 1) (q := 4) (v := (σ 4 1)) zd_256_5 rfl rfl rfl (by decide) rfl]
  rw [zp_ishl (x := 1) (y := (σ 4 1)) (z := (zJ_shl 1 (σ 4 1))) zd_256_8 rfl]
  rw [zs_iconst (z := 1) zd_256_9 (by decide)]
  rw [zp_isub (x := (zJ_shl 1 (σ 4 1))) (y := 1) (z := ((zJ_shl 1 (σ 4 1)) - 1)) zd_256_10 rfl]
  rw [zs_istore_n (x := ((zJ_shl 1 (σ 4 1)) - 1)) (ls' := [some (.ref 76), some (.int x1), some (.int ((zJ_shl 1 (σ 4 1)) - 1)), none, none, none]) zd_256_11 (Nat.le_of_ble_eq_true rfl) rfl]
  rw [zs_iconst (z := 0) zd_256_12 (by decide)]
  rw [zs_istore_n (x := 0) (ls' := [some (.ref 76), some (.int x1), some (.int ((zJ_shl 1 (σ 4 1)) - 1)), some (.int 0), none, none]) zd_256_13 (Nat.le_of_ble_eq_true rfl) rfl]
  exact zt_Judge_guardsOf_14  H
set_option maxRecDepth 20000 in
theorem zt_X_guards {a b L N : Nat} {σ : zS} {τ : zT} {x1 : Int32} {r : Int32} (H : zf_X_guards N σ x1 = some r) : zx_go 2 255 0 [some (.ref 2), some (.int x1)] [] ((119, a, b), zx_pk (zK L) 119, σ, τ, zR) = some (some (.int r), ((119, a, b), zx_pk (zK L) 119, σ, τ, zR)) := by
  unfold zf_X_guards at H
  rw [zs_aload_n (ls := [some (.ref 2), some (.int x1)]) zd_255_0 rfl]
  rw [zp_getZ (n := 119) (K := zx_pk (zK L) 119) (σ := σ) (c := 11) (k := 13) (q := 2) (v := (σ 2 13)) zd_255_1 rfl rfl rfl (by decide) rfl]
  by_cases c1 : ¬ (σ 2 13) = 0
  · rw [if_pos c1] at H
    rw [zp_if_ne_t (x := (σ 2 13)) (t := 10) zd_255_4 rfl c1]
    rw [zs_iload_n (ls := [some (.ref 2), some (.int x1)]) zd_255_10 rfl]
    by_cases c2 : x1 < 0
    · rw [if_pos c2] at H
      rw [zp_if_lt_t (x := x1) (t := 25) zd_255_11 rfl c2]
      rw [zs_bipush (z := (-102)) zd_255_25 (by decide)]
      have H := Option.some.inj H
      subst H
      exact zs_ireturn zd_255_27 (by decide +kernel)
    · rw [if_neg c2] at H
      rw [zp_if_lt_f (x := x1) (t := 25) zd_255_11 rfl c2]
      rw [zs_iload_n (ls := [some (.ref 2), some (.int x1)]) zd_255_14 rfl]
      rw [zs_aload_n (ls := [some (.ref 2), some (.int x1)]) zd_255_15 rfl]
      rw [zs_getR (n := 119) (K := zx_pk (zK L) 119) (ρ := zR) (c := 11) (k := 1) (q := 2) (p := 4) zd_255_16 rfl rfl rfl (by decide) rfl]
      rw [zp_getI (n := 119) (K := zx_pk (zK L) 119) (σ := σ) (c := 6) (k := 0) (q := 4) (v := (σ 4 0)) zd_255_19 rfl rfl rfl (by decide) rfl]
      by_cases c3 : x1 < (σ 4 0)
      · rw [if_pos c3] at H
        rw [zp_icmp_lt_t (x := x1) (y := (σ 4 0)) (t := 28) zd_255_22 rfl c3]
        rw [zs_aload_n (ls := [some (.ref 2), some (.int x1)]) zd_255_28 rfl]
        rw [zs_getR (n := 119) (K := zx_pk (zK L) 119) (ρ := zR) (c := 11) (k := 9) (q := 2) (p := 76) zd_255_29 rfl rfl rfl (by decide) rfl]
        rw [zs_iload_n (ls := [some (.ref 2), some (.int x1)]) zd_255_32 rfl]
        obtain ⟨r4, hr4, H⟩ := Option.bind_eq_some_iff.mp H
        rw [zp_callVi (x := r4) (st := [.int x1, .ref 76]) (as := [.ref 76, .int x1]) (rest := []) (e := 1) zd_255_33 rfl (by decide +kernel) (by decide) rfl rfl (Nat.le_of_ble_eq_true rfl) (zx_rcb_ok rfl (show 76 < 119 by decide)) (Nat.le_of_ble_eq_true rfl) rfl (by decide) (zt_Judge_guardsOf hr4)]
        have H := Option.some.inj H
        subst H
        exact zs_ireturn zd_255_36 rfl
      · rw [if_neg c3] at H
        rw [zp_icmp_lt_f (x := x1) (y := (σ 4 0)) (t := 28) zd_255_22 rfl c3]
        rw [zs_bipush (z := (-102)) zd_255_25 (by decide)]
        have H := Option.some.inj H
        subst H
        exact zs_ireturn zd_255_27 (by decide +kernel)
  · rw [if_neg c1] at H
    rw [zp_if_ne_f (x := (σ 2 13)) (t := 10) zd_255_4 rfl c1]
    rw [zs_bipush (z := (-101)) zd_255_7 (by decide)]
    have H := Option.some.inj H
    subst H
    exact zs_ireturn zd_255_9 (by decide +kernel)
set_option maxRecDepth 20000 in
theorem zt_M_guards_97 {a b L N : Nat} {k43 : zS → Int32 → Int32 → Int32 → Option (Int32 × zS)} (hk43 : ∀ {σ : zS} {τ : zT} {v1 : Int32} {v2 : Int32} {v3 : Int32} {r : Int32 × zS}, k43 σ v1 v2 v3 = some r → zx_go 1 257 43 [some (.ref 82), some (.int v1), some (.int v2), some (.int v3)] [] ((119, a, b), zx_pk (zK L) 119, σ, τ, zR) = some (some (.int r.1), ((119, a, b), zx_pk (zK L) 119, r.2, τ, zR))) {σ : zS} {τ : zT} {v1 : Int32} {v2 : Int32} {v3 : Int32} {r : Int32 × zS} (H : zb_M_guards_97 k43 N σ v1 v2 v3 = some r) : zx_go 1 257 97 [some (.ref 82), some (.int v1), some (.int v2), some (.int v3)] [] ((119, a, b), zx_pk (zK L) 119, σ, τ, zR) = some (some (.int r.1), ((119, a, b), zx_pk (zK L) 119, r.2, τ, zR)) := by
  unfold zb_M_guards_97 at H
  rw [zs_iinc (ls := [some (.ref 82), some (.int v1), some (.int v2), some (.int v3)]) (x := v3) (z := (v3 + 1)) (ls' := [some (.ref 82), some (.int v1), some (.int v2), some (.int (v3 + 1))]) zd_257_97 rfl rfl rfl]
  rw [zs_goto (t := 43) zd_257_100 rfl]
  exact hk43 H
set_option maxRecDepth 20000 in
theorem zt_M_guards_43 {a b L N : Nat} : ∀ {n : Nat} {σ : zS} {τ : zT} {v1 : Int32} {v2 : Int32} {v3 : Int32} {r : Int32 × zS}, zb_M_guards_43 N n σ v1 v2 v3 = some r → zx_go 1 257 43 [some (.ref 82), some (.int v1), some (.int v2), some (.int v3)] [] ((119, a, b), zx_pk (zK L) 119, σ, τ, zR) = some (some (.int r.1), ((119, a, b), zx_pk (zK L) 119, r.2, τ, zR)) := by
  intro n
  induction n with
  | zero =>
    intro _ _ _ _ _ _ H
    cases H
  | succ n ih =>
    intro σ τ v1 v2 v3 r H
    rw [zb_M_guards_43] at H
    rw [zs_iload_n (ls := [some (.ref 82), some (.int v1), some (.int v2), some (.int v3)]) zd_257_43 rfl]
    rw [zs_bipush (z := 24) zd_257_44 (by decide)]
    rw [zs_aload_n (ls := [some (.ref 82), some (.int v1), some (.int v2), some (.int v3)]) zd_257_46 rfl]
    rw [zp_getI (n := 119) (K := zx_pk (zK L) 119) (σ := σ) (c := 12) (k := 17) (q := 82) (v := (σ 82 17)) zd_257_47 rfl rfl rfl (by decide) rfl]
    rw [zp_imul (x := 24) (y := (σ 82 17)) (z := (24 * (σ 82 17))) zd_257_50 rfl]
    by_cases c4 : (24 * (σ 82 17)) ≤ v3
    · rw [if_pos c4] at H
      rw [zp_icmp_ge_t (x := v3) (y := (24 * (σ 82 17))) (t := 103) zd_257_51 rfl c4]
      rw [zs_iload_n (ls := [some (.ref 82), some (.int v1), some (.int v2), some (.int v3)]) zd_257_103 rfl]
      have H := Option.some.inj H
      subst H
      exact zs_ireturn zd_257_104 rfl
    · rw [if_neg c4] at H
      rw [zp_icmp_ge_f (x := v3) (y := (24 * (σ 82 17))) (t := 103) zd_257_51 rfl c4]
      rw [zs_iload_n (ls := [some (.ref 82), some (.int v1), some (.int v2), some (.int v3)]) zd_257_54 rfl]
      rw [zs_bipush (z := 24) zd_257_55 (by decide)]
      rw [zp_irem (x := v3) (y := 24) (z := (zJ_rem v3 24)) zd_257_57 (by decide) rfl]
      rw [zs_aload_n (ls := [some (.ref 82), some (.int v1), some (.int v2), some (.int v3)]) zd_257_58 rfl]
      rw [zs_getR (n := 119) (K := zx_pk (zK L) 119) (ρ := zR) (c := 12) (k := 24) (q := 82) (p := 90) zd_257_59 rfl rfl rfl (by decide) rfl]
      rw [zs_iload_n (ls := [some (.ref 82), some (.int v1), some (.int v2), some (.int v3)]) zd_257_62 rfl]
      rw [zs_bipush (z := 24) zd_257_63 (by decide)]
      rw [zp_idiv (x := v3) (y := 24) (z := (v3 / 24)) zd_257_65 (by decide) rfl]
      by_cases c5 : 0 ≤ (v3 / 24) ∧ (v3 / 24) < 4
      · rw [if_pos c5] at H
        rw [zp_iaload (n := 119) (K := zx_pk (zK L) 119) (σ := σ) (q := 90) (m := 4) (i := (v3 / 24)) (k := (v3 / 24).toNatClampNeg) (v := (σ 90 (v3 / 24).toNatClampNeg)) zd_257_66 rfl (by decide) (zJ_in c5 rfl) rfl rfl]
        by_cases c6 : (σ 90 (v3 / 24).toNatClampNeg) ≤ (zJ_rem v3 24)
        · rw [if_pos c6] at H
          rw [zp_icmp_ge_t (x := (zJ_rem v3 24)) (y := (σ 90 (v3 / 24).toNatClampNeg)) (t := 97) zd_257_67 rfl c6]
          exact zt_M_guards_97 (hk43 := ih) H
        · rw [if_neg c6] at H
          rw [zp_icmp_ge_f (x := (zJ_rem v3 24)) (y := (σ 90 (v3 / 24).toNatClampNeg)) (t := 97) zd_257_67 rfl c6]
          rw [zs_aload_n (ls := [some (.ref 82), some (.int v1), some (.int v2), some (.int v3)]) zd_257_70 rfl]
          rw [zs_iload_n (ls := [some (.ref 82), some (.int v1), some (.int v2), some (.int v3)]) zd_257_71 rfl]
          obtain ⟨r7, hr7, H⟩ := Option.bind_eq_some_iff.mp H
          rw [zp_callVi (x := r7) (st := [.int v3, .ref 82]) (as := [.ref 82, .int v3]) (rest := []) (e := 0) zd_257_72 rfl (by decide +kernel) (by decide) rfl rfl (Nat.le_of_ble_eq_true rfl) (zx_rcb_ok rfl (show 82 < 119 by decide)) (Nat.le_of_ble_eq_true rfl) rfl (by decide) (zt_M_touches hr7)]
          by_cases c8 : r7 = 0
          · rw [if_pos c8] at H
            rw [zp_if_eq_t (x := r7) (t := 97) zd_257_75 rfl c8]
            exact zt_M_guards_97 (hk43 := ih) H
          · rw [if_neg c8] at H
            rw [zp_if_eq_f (x := r7) (t := 97) zd_257_75 rfl c8]
            rw [zs_aload_n (ls := [some (.ref 82), some (.int v1), some (.int v2), some (.int v3)]) zd_257_78 rfl]
            rw [zs_getR (n := 119) (K := zx_pk (zK L) 119) (ρ := zR) (c := 12) (k := 28) (q := 82) (p := 93) zd_257_79 rfl rfl rfl (by decide) rfl]
            rw [zs_iload_n (ls := [some (.ref 82), some (.int v1), some (.int v2), some (.int v3)]) zd_257_82 rfl]
            by_cases c9 : 0 ≤ v3 ∧ v3 < 96
            · rw [if_pos c9] at H
              rw [zp_iaload (n := 119) (K := zx_pk (zK L) 119) (σ := σ) (q := 93) (m := 96) (i := v3) (k := v3.toNatClampNeg) (v := (σ 93 v3.toNatClampNeg)) zd_257_83 rfl (by decide) (zJ_in c9 rfl) rfl rfl]
              rw [zs_iload_n (ls := [some (.ref 82), some (.int v1), some (.int v2), some (.int v3)]) zd_257_84 rfl]
              by_cases c10 : ¬ (σ 93 v3.toNatClampNeg) = v1
              · rw [if_pos c10] at H
                rw [zp_icmp_ne_t (x := (σ 93 v3.toNatClampNeg)) (y := v1) (t := 97) zd_257_85 rfl c10]
                exact zt_M_guards_97 (hk43 := ih) H
              · rw [if_neg c10] at H
                rw [zp_icmp_ne_f (x := (σ 93 v3.toNatClampNeg)) (y := v1) (t := 97) zd_257_85 rfl c10]
                rw [zs_iload_n (ls := [some (.ref 82), some (.int v1), some (.int v2), some (.int v3)]) zd_257_88 rfl]
                rw [zs_aload_n (ls := [some (.ref 82), some (.int v1), some (.int v2), some (.int v3)]) zd_257_89 rfl]
                rw [zs_getR (n := 119) (K := zx_pk (zK L) 119) (ρ := zR) (c := 12) (k := 31) (q := 82) (p := 96) zd_257_90 rfl rfl rfl (by decide) rfl]
                rw [zs_iload_n (ls := [some (.ref 82), some (.int v1), some (.int v2), some (.int v3)]) zd_257_93 rfl]
                by_cases c11 : 0 ≤ v3 ∧ v3 < 96
                · rw [if_pos c11] at H
                  rw [zp_iaload (n := 119) (K := zx_pk (zK L) 119) (σ := σ) (q := 96) (m := 96) (i := v3) (k := v3.toNatClampNeg) (v := (σ 96 v3.toNatClampNeg)) zd_257_94 rfl (by decide) (zJ_in c11 rfl) rfl rfl]
                  rw [zp_iand (x := v2) (y := (σ 96 v3.toNatClampNeg)) (z := (v2 &&& (σ 96 v3.toNatClampNeg))) zd_257_95 rfl]
                  rw [zs_istore_n (x := (v2 &&& (σ 96 v3.toNatClampNeg))) (ls' := [some (.ref 82), some (.int v1), some (.int (v2 &&& (σ 96 v3.toNatClampNeg))), some (.int v3)]) zd_257_96 (Nat.le_of_ble_eq_true rfl) rfl]
                  exact zt_M_guards_97 (hk43 := ih) H
                · rw [if_neg c11] at H
                  cases H
            · rw [if_neg c9] at H
              cases H
      · rw [if_neg c5] at H
        cases H
set_option maxRecDepth 20000 in
theorem zt_M_guards {a b L N : Nat} {σ : zS} {τ : zT} {x1 : Int32} {r : Int32 × zS} (H : zf_M_guards N σ x1 = some r) : zx_go 1 257 0 [some (.ref 82), some (.int x1), none, none] [] ((119, a, b), zx_pk (zK L) 119, σ, τ, zR) = some (some (.int r.1), ((119, a, b), zx_pk (zK L) 119, r.2, τ, zR)) := by
  unfold zf_M_guards at H
  rw [zs_aload_n (ls := [some (.ref 82), some (.int x1), none, none]) zd_257_0 rfl]
  rw [zs_iconst (z := 0) zd_257_1 (by decide)]
  rw [zs_putI (n := 119) (K := zx_pk (zK L) 119) (c := 12) (k := 0) (q := 82) (x := 0) zd_257_2 rfl rfl (by decide +kernel) rfl (by decide)]
  rw [zs_aload_n (ls := [some (.ref 82), some (.int x1), none, none]) zd_257_5 rfl]
  rw [zp_getZ (n := 119) (K := zx_pk (zK L) 119) (σ := (zx_up σ 82 0 0)) (c := 12) (k := 21) (q := 82) (v := (σ 82 21)) zd_257_6 rfl rfl rfl (by decide) (show ((zx_up σ 82 0 0) : zS) 82 21 = (σ 82 21) from ((zx_up_nj (by decide)).trans rfl))]
  by_cases c1 : ¬ (σ 82 21) = 0
  · rw [if_pos c1] at H
    rw [zp_if_ne_t (x := (σ 82 21)) (t := 15) zd_257_9 rfl c1]
    rw [zs_iload_n (ls := [some (.ref 82), some (.int x1), none, none]) zd_257_15 rfl]
    rw [zs_iconst (z := 0) zd_257_16 (by decide)]
    rw [zs_aload_n (ls := [some (.ref 82), some (.int x1), none, none]) zd_257_17 rfl]
    rw [zp_getI (n := 119) (K := zx_pk (zK L) 119) (σ := (zx_up σ 82 0 0)) (c := 12) (k := 15) (q := 82) (v := (σ 82 15)) zd_257_18 rfl rfl rfl (by decide) (show ((zx_up σ 82 0 0) : zS) 82 15 = (σ 82 15) from ((zx_up_nj (by decide)).trans rfl))]
    rw [zs_iconst (z := 1) zd_257_21 (by decide)]
    rw [zp_isub (x := (σ 82 15)) (y := 1) (z := ((σ 82 15) - 1)) zd_257_22 rfl]
    obtain ⟨r2, hr2, H⟩ := Option.bind_eq_some_iff.mp H
    rw [zp_callSi (x := r2) (st := [.int ((σ 82 15) - 1), .int 0, .int x1]) (as := [.int x1, .int 0, .int ((σ 82 15) - 1)]) (rest := []) (e := 0) zd_257_23 rfl (by decide +kernel) (by decide) rfl rfl (Nat.le_of_ble_eq_true rfl) rfl (Nat.le_of_ble_eq_true rfl) rfl (by decide) (zt_M_in hr2)]
    by_cases c3 : ¬ r2 = 0
    · rw [if_pos c3] at H
      rw [zp_if_ne_t (x := r2) (t := 32) zd_257_26 rfl c3]
      rw [zs_iconst (z := 1) zd_257_32 (by decide)]
      rw [zs_aload_n (ls := [some (.ref 82), some (.int x1), none, none]) zd_257_33 rfl]
      rw [zp_getI (n := 119) (K := zx_pk (zK L) 119) (σ := (zx_up σ 82 0 0)) (c := 12) (k := 16) (q := 82) (v := (σ 82 16)) zd_257_34 rfl rfl rfl (by decide) (show ((zx_up σ 82 0 0) : zS) 82 16 = (σ 82 16) from ((zx_up_nj (by decide)).trans rfl))]
      rw [zp_ishl (x := 1) (y := (σ 82 16)) (z := (zJ_shl 1 (σ 82 16))) zd_257_37 rfl]
      rw [zs_iconst (z := 1) zd_257_38 (by decide)]
      rw [zp_isub (x := (zJ_shl 1 (σ 82 16))) (y := 1) (z := ((zJ_shl 1 (σ 82 16)) - 1)) zd_257_39 rfl]
      rw [zs_istore_n (x := ((zJ_shl 1 (σ 82 16)) - 1)) (ls' := [some (.ref 82), some (.int x1), some (.int ((zJ_shl 1 (σ 82 16)) - 1)), none]) zd_257_40 (Nat.le_of_ble_eq_true rfl) rfl]
      rw [zs_iconst (z := 0) zd_257_41 (by decide)]
      rw [zs_istore_n (x := 0) (ls' := [some (.ref 82), some (.int x1), some (.int ((zJ_shl 1 (σ 82 16)) - 1)), some (.int 0)]) zd_257_42 (Nat.le_of_ble_eq_true rfl) rfl]
      exact zt_M_guards_43  H
    · rw [if_neg c3] at H
      rw [zp_if_ne_f (x := r2) (t := 32) zd_257_26 rfl c3]
      rw [zs_bipush (z := (-102)) zd_257_29 (by decide)]
      have H := Option.some.inj H
      subst H
      exact zs_ireturn zd_257_31 (by decide +kernel)
  · rw [if_neg c1] at H
    rw [zp_if_ne_f (x := (σ 82 21)) (t := 15) zd_257_9 rfl c1]
    rw [zs_bipush (z := (-101)) zd_257_12 (by decide)]
    have H := Option.some.inj H
    subst H
    exact zs_ireturn zd_257_14 (by decide +kernel)
set_option maxRecDepth 20000 in
theorem zt_X_rings {a b L N : Nat} {σ : zS} {τ : zT} {r : Int32 × zS} (H : zf_X_rings N σ = some r) : zx_go 33 258 0 [some (.ref 2)] [] ((119, a, b), zx_pk (zK L) 119, σ, τ, zR) = some (some (.int r.1), ((119, a, b), zx_pk (zK L) 119, r.2, τ, zR)) := by
  unfold zf_X_rings at H
  rw [zs_aload_n (ls := [some (.ref 2)]) zd_258_0 rfl]
  rw [zp_getZ (n := 119) (K := zx_pk (zK L) 119) (σ := σ) (c := 11) (k := 13) (q := 2) (v := (σ 2 13)) zd_258_1 rfl rfl rfl (by decide) rfl]
  by_cases c1 : ¬ (σ 2 13) = 0
  · rw [if_pos c1] at H
    rw [zp_if_ne_t (x := (σ 2 13)) (t := 10) zd_258_4 rfl c1]
    rw [zs_aload_n (ls := [some (.ref 2)]) zd_258_10 rfl]
    rw [zs_getR (n := 119) (K := zx_pk (zK L) 119) (ρ := zR) (c := 11) (k := 9) (q := 2) (p := 76) zd_258_11 rfl rfl rfl (by decide) rfl]
    obtain ⟨r2, hr2, H⟩ := Option.bind_eq_some_iff.mp H
    rw [zp_callVv (st := [.ref 76]) (as := [.ref 76]) (rest := []) (e := 32) zd_258_14 rfl (by decide +kernel) (by decide) rfl rfl (Nat.le_of_ble_eq_true rfl) (zx_rcb_ok rfl (show 76 < 119 by decide)) (Nat.le_of_ble_eq_true rfl) rfl (by decide) (zt_Judge_prepare hr2)]
    rw [zs_aload_n (ls := [some (.ref 2)]) zd_258_17 rfl]
    rw [zs_getR (n := 119) (K := zx_pk (zK L) 119) (ρ := zR) (c := 11) (k := 9) (q := 2) (p := 76) zd_258_18 rfl rfl rfl (by decide) rfl]
    rw [zp_getI (n := 119) (K := zx_pk (zK L) 119) (σ := r2) (c := 1) (k := 4) (q := 76) (v := (r2 76 4)) zd_258_21 rfl rfl rfl (by decide) rfl]
    have H := Option.some.inj H
    subst H
    exact zs_ireturn zd_258_24 rfl
  · rw [if_neg c1] at H
    rw [zp_if_ne_f (x := (σ 2 13)) (t := 10) zd_258_4 rfl c1]
    rw [zs_bipush (z := (-101)) zd_258_7 (by decide)]
    have H := Option.some.inj H
    subst H
    exact zs_ireturn zd_258_9 (by decide +kernel)
set_option maxRecDepth 20000 in
theorem zt_M_isTaking {a b L : Nat} {σ : zS} {τ : zT} {x1 : Int32} {r : Int32} (H : zf_M_isTaking σ x1 = some r) : zx_go 0 260 0 [some (.ref 82), some (.int x1)] [] ((119, a, b), zx_pk (zK L) 119, σ, τ, zR) = some (some (.int r), ((119, a, b), zx_pk (zK L) 119, σ, τ, zR)) := by
  unfold zf_M_isTaking at H
  rw [zs_iload_n (ls := [some (.ref 82), some (.int x1)]) zd_260_0 rfl]
  rw [zs_bipush (z := 24) zd_260_1 (by decide)]
  rw [zp_irem (x := x1) (y := 24) (z := (zJ_rem x1 24)) zd_260_3 (by decide) rfl]
  rw [zs_aload_n (ls := [some (.ref 82), some (.int x1)]) zd_260_4 rfl]
  rw [zs_getR (n := 119) (K := zx_pk (zK L) 119) (ρ := zR) (c := 12) (k := 24) (q := 82) (p := 90) zd_260_5 rfl rfl rfl (by decide) rfl]
  rw [zs_iload_n (ls := [some (.ref 82), some (.int x1)]) zd_260_8 rfl]
  rw [zs_bipush (z := 24) zd_260_9 (by decide)]
  rw [zp_idiv (x := x1) (y := 24) (z := (x1 / 24)) zd_260_11 (by decide) rfl]
  by_cases c1 : 0 ≤ (x1 / 24) ∧ (x1 / 24) < 4
  · rw [if_pos c1] at H
    rw [zp_iaload (n := 119) (K := zx_pk (zK L) 119) (σ := σ) (q := 90) (m := 4) (i := (x1 / 24)) (k := (x1 / 24).toNatClampNeg) (v := (σ 90 (x1 / 24).toNatClampNeg)) zd_260_12 rfl (by decide) (zJ_in c1 rfl) rfl rfl]
    by_cases c2 : (σ 90 (x1 / 24).toNatClampNeg) ≤ (zJ_rem x1 24)
    · rw [if_pos c2] at H
      rw [zp_icmp_ge_t (x := (zJ_rem x1 24)) (y := (σ 90 (x1 / 24).toNatClampNeg)) (t := 30) zd_260_13 rfl c2]
      rw [zs_iconst (z := 0) zd_260_30 (by decide)]
      have H := Option.some.inj H
      subst H
      exact zs_ireturn zd_260_31 (by decide +kernel)
    · rw [if_neg c2] at H
      rw [zp_icmp_ge_f (x := (zJ_rem x1 24)) (y := (σ 90 (x1 / 24).toNatClampNeg)) (t := 30) zd_260_13 rfl c2]
      rw [zs_aload_n (ls := [some (.ref 82), some (.int x1)]) zd_260_16 rfl]
      rw [zs_getR (n := 119) (K := zx_pk (zK L) 119) (ρ := zR) (c := 12) (k := 27) (q := 82) (p := 92) zd_260_17 rfl rfl rfl (by decide) rfl]
      rw [zs_iload_n (ls := [some (.ref 82), some (.int x1)]) zd_260_20 rfl]
      by_cases c3 : 0 ≤ x1 ∧ x1 < 96
      · rw [if_pos c3] at H
        rw [zp_iaload (n := 119) (K := zx_pk (zK L) 119) (σ := σ) (q := 92) (m := 96) (i := x1) (k := x1.toNatClampNeg) (v := (σ 92 x1.toNatClampNeg)) zd_260_21 rfl (by decide) (zJ_in c3 rfl) rfl rfl]
        rw [zs_iconst (z := 3) zd_260_22 (by decide)]
        by_cases c4 : ¬ (σ 92 x1.toNatClampNeg) = 3
        · rw [if_pos c4] at H
          rw [zp_icmp_ne_t (x := (σ 92 x1.toNatClampNeg)) (y := 3) (t := 30) zd_260_23 rfl c4]
          rw [zs_iconst (z := 0) zd_260_30 (by decide)]
          have H := Option.some.inj H
          subst H
          exact zs_ireturn zd_260_31 (by decide +kernel)
        · rw [if_neg c4] at H
          rw [zp_icmp_ne_f (x := (σ 92 x1.toNatClampNeg)) (y := 3) (t := 30) zd_260_23 rfl c4]
          rw [zs_iconst (z := 1) zd_260_26 (by decide)]
          rw [zs_goto (t := 31) zd_260_27 rfl]
          have H := Option.some.inj H
          subst H
          exact zs_ireturn zd_260_31 (by decide +kernel)
      · rw [if_neg c3] at H
        cases H
  · rw [if_neg c1] at H
    cases H
set_option maxRecDepth 20000 in
theorem zt_M_isHeld {a b L : Nat} {σ : zS} {τ : zT} {x1 : Int32} {x2 : Int32} {r : Int32} (H : zf_M_isHeld σ x1 x2 = some r) : zx_go 0 261 0 [some (.ref 82), some (.int x1), some (.int x2)] [] ((119, a, b), zx_pk (zK L) 119, σ, τ, zR) = some (some (.int r), ((119, a, b), zx_pk (zK L) 119, σ, τ, zR)) := by
  unfold zf_M_isHeld at H
  rw [zs_aload_n (ls := [some (.ref 82), some (.int x1), some (.int x2)]) zd_261_0 rfl]
  rw [zs_getR (n := 119) (K := zx_pk (zK L) 119) (ρ := zR) (c := 12) (k := 31) (q := 82) (p := 96) zd_261_1 rfl rfl rfl (by decide) rfl]
  rw [zs_iload_n (ls := [some (.ref 82), some (.int x1), some (.int x2)]) zd_261_4 rfl]
  by_cases c1 : 0 ≤ x2 ∧ x2 < 96
  · rw [if_pos c1] at H
    rw [zp_iaload (n := 119) (K := zx_pk (zK L) 119) (σ := σ) (q := 96) (m := 96) (i := x2) (k := x2.toNatClampNeg) (v := (σ 96 x2.toNatClampNeg)) zd_261_5 rfl (by decide) (zJ_in c1 rfl) rfl rfl]
    rw [zs_aload_n (ls := [some (.ref 82), some (.int x1), some (.int x2)]) zd_261_6 rfl]
    rw [zs_getR (n := 119) (K := zx_pk (zK L) 119) (ρ := zR) (c := 12) (k := 28) (q := 82) (p := 93) zd_261_7 rfl rfl rfl (by decide) rfl]
    rw [zs_iload_n (ls := [some (.ref 82), some (.int x1), some (.int x2)]) zd_261_10 rfl]
    by_cases c2 : 0 ≤ x1 ∧ x1 < 96
    · rw [if_pos c2] at H
      rw [zp_iaload (n := 119) (K := zx_pk (zK L) 119) (σ := σ) (q := 93) (m := 96) (i := x1) (k := x1.toNatClampNeg) (v := (σ 93 x1.toNatClampNeg)) zd_261_11 rfl (by decide) (zJ_in c2 rfl) rfl rfl]
      rw [zp_ishr (x := (σ 96 x2.toNatClampNeg)) (y := (σ 93 x1.toNatClampNeg)) (z := (zJ_shr (σ 96 x2.toNatClampNeg) (σ 93 x1.toNatClampNeg))) zd_261_12 rfl]
      rw [zs_iconst (z := 1) zd_261_13 (by decide)]
      rw [zp_iand (x := (zJ_shr (σ 96 x2.toNatClampNeg) (σ 93 x1.toNatClampNeg))) (y := 1) (z := ((zJ_shr (σ 96 x2.toNatClampNeg) (σ 93 x1.toNatClampNeg)) &&& 1)) zd_261_14 rfl]
      rw [zs_iconst (z := 1) zd_261_15 (by decide)]
      by_cases c3 : ¬ ((zJ_shr (σ 96 x2.toNatClampNeg) (σ 93 x1.toNatClampNeg)) &&& 1) = 1
      · rw [if_pos c3] at H
        rw [zp_icmp_ne_t (x := ((zJ_shr (σ 96 x2.toNatClampNeg) (σ 93 x1.toNatClampNeg)) &&& 1)) (y := 1) (t := 23) zd_261_16 rfl c3]
        rw [zs_iconst (z := 0) zd_261_23 (by decide)]
        have H := Option.some.inj H
        subst H
        exact zs_ireturn zd_261_24 (by decide +kernel)
      · rw [if_neg c3] at H
        rw [zp_icmp_ne_f (x := ((zJ_shr (σ 96 x2.toNatClampNeg) (σ 93 x1.toNatClampNeg)) &&& 1)) (y := 1) (t := 23) zd_261_16 rfl c3]
        rw [zs_iconst (z := 1) zd_261_19 (by decide)]
        rw [zs_goto (t := 24) zd_261_20 rfl]
        have H := Option.some.inj H
        subst H
        exact zs_ireturn zd_261_24 (by decide +kernel)
    · rw [if_neg c2] at H
      cases H
  · rw [if_neg c1] at H
    cases H
set_option maxRecDepth 20000 in
theorem zt_M_goTogether {a b L N : Nat} {σ : zS} {τ : zT} {x1 : Int32} {x2 : Int32} {r : Int32} (H : zf_M_goTogether N σ x1 x2 = some r) : zx_go 4 262 0 [some (.ref 82), some (.int x1), some (.int x2)] [] ((119, a, b), zx_pk (zK L) 119, σ, τ, zR) = some (some (.int r), ((119, a, b), zx_pk (zK L) 119, σ, τ, zR)) := by
  unfold zf_M_goTogether at H
  rw [zs_iload_n (ls := [some (.ref 82), some (.int x1), some (.int x2)]) zd_262_0 rfl]
  rw [zs_bipush (z := 24) zd_262_1 (by decide)]
  rw [zp_idiv (x := x1) (y := 24) (z := (x1 / 24)) zd_262_3 (by decide) rfl]
  rw [zs_iload_n (ls := [some (.ref 82), some (.int x1), some (.int x2)]) zd_262_4 rfl]
  rw [zs_bipush (z := 24) zd_262_5 (by decide)]
  rw [zp_idiv (x := x2) (y := 24) (z := (x2 / 24)) zd_262_7 (by decide) rfl]
  by_cases c1 : (x1 / 24) = (x2 / 24)
  · rw [if_pos c1] at H
    rw [zp_icmp_eq_t (x := (x1 / 24)) (y := (x2 / 24)) (t := 69) zd_262_8 rfl c1]
    rw [zs_iconst (z := 0) zd_262_69 (by decide)]
    have H := Option.some.inj H
    subst H
    exact zs_ireturn zd_262_70 (by decide +kernel)
  · rw [if_neg c1] at H
    rw [zp_icmp_eq_f (x := (x1 / 24)) (y := (x2 / 24)) (t := 69) zd_262_8 rfl c1]
    rw [zs_aload_n (ls := [some (.ref 82), some (.int x1), some (.int x2)]) zd_262_11 rfl]
    rw [zs_getR (n := 119) (K := zx_pk (zK L) 119) (ρ := zR) (c := 12) (k := 28) (q := 82) (p := 93) zd_262_12 rfl rfl rfl (by decide) rfl]
    rw [zs_iload_n (ls := [some (.ref 82), some (.int x1), some (.int x2)]) zd_262_15 rfl]
    by_cases c2 : 0 ≤ x1 ∧ x1 < 96
    · rw [if_pos c2] at H
      rw [zp_iaload (n := 119) (K := zx_pk (zK L) 119) (σ := σ) (q := 93) (m := 96) (i := x1) (k := x1.toNatClampNeg) (v := (σ 93 x1.toNatClampNeg)) zd_262_16 rfl (by decide) (zJ_in c2 rfl) rfl rfl]
      rw [zs_aload_n (ls := [some (.ref 82), some (.int x1), some (.int x2)]) zd_262_17 rfl]
      rw [zs_getR (n := 119) (K := zx_pk (zK L) 119) (ρ := zR) (c := 12) (k := 28) (q := 82) (p := 93) zd_262_18 rfl rfl rfl (by decide) rfl]
      rw [zs_iload_n (ls := [some (.ref 82), some (.int x1), some (.int x2)]) zd_262_21 rfl]
      by_cases c3 : 0 ≤ x2 ∧ x2 < 96
      · rw [if_pos c3] at H
        rw [zp_iaload (n := 119) (K := zx_pk (zK L) 119) (σ := σ) (q := 93) (m := 96) (i := x2) (k := x2.toNatClampNeg) (v := (σ 93 x2.toNatClampNeg)) zd_262_22 rfl (by decide) (zJ_in c3 rfl) rfl rfl]
        by_cases c4 : (σ 93 x1.toNatClampNeg) = (σ 93 x2.toNatClampNeg)
        · rw [if_pos c4] at H
          rw [zp_icmp_eq_t (x := (σ 93 x1.toNatClampNeg)) (y := (σ 93 x2.toNatClampNeg)) (t := 69) zd_262_23 rfl c4]
          rw [zs_iconst (z := 0) zd_262_69 (by decide)]
          have H := Option.some.inj H
          subst H
          exact zs_ireturn zd_262_70 (by decide +kernel)
        · rw [if_neg c4] at H
          rw [zp_icmp_eq_f (x := (σ 93 x1.toNatClampNeg)) (y := (σ 93 x2.toNatClampNeg)) (t := 69) zd_262_23 rfl c4]
          rw [zs_aload_n (ls := [some (.ref 82), some (.int x1), some (.int x2)]) zd_262_26 rfl]
          rw [zs_getR (n := 119) (K := zx_pk (zK L) 119) (ρ := zR) (c := 12) (k := 31) (q := 82) (p := 96) zd_262_27 rfl rfl rfl (by decide) rfl]
          rw [zs_iload_n (ls := [some (.ref 82), some (.int x1), some (.int x2)]) zd_262_30 rfl]
          by_cases c5 : 0 ≤ x1 ∧ x1 < 96
          · rw [if_pos c5] at H
            rw [zp_iaload (n := 119) (K := zx_pk (zK L) 119) (σ := σ) (q := 96) (m := 96) (i := x1) (k := x1.toNatClampNeg) (v := (σ 96 x1.toNatClampNeg)) zd_262_31 rfl (by decide) (zJ_in c5 rfl) rfl rfl]
            rw [zs_aload_n (ls := [some (.ref 82), some (.int x1), some (.int x2)]) zd_262_32 rfl]
            rw [zs_getR (n := 119) (K := zx_pk (zK L) 119) (ρ := zR) (c := 12) (k := 31) (q := 82) (p := 96) zd_262_33 rfl rfl rfl (by decide) rfl]
            rw [zs_iload_n (ls := [some (.ref 82), some (.int x1), some (.int x2)]) zd_262_36 rfl]
            by_cases c6 : 0 ≤ x2 ∧ x2 < 96
            · rw [if_pos c6] at H
              rw [zp_iaload (n := 119) (K := zx_pk (zK L) 119) (σ := σ) (q := 96) (m := 96) (i := x2) (k := x2.toNatClampNeg) (v := (σ 96 x2.toNatClampNeg)) zd_262_37 rfl (by decide) (zJ_in c6 rfl) rfl rfl]
              rw [zp_iand (x := (σ 96 x1.toNatClampNeg)) (y := (σ 96 x2.toNatClampNeg)) (z := ((σ 96 x1.toNatClampNeg) &&& (σ 96 x2.toNatClampNeg))) zd_262_38 rfl]
              by_cases c7 : ¬ ((σ 96 x1.toNatClampNeg) &&& (σ 96 x2.toNatClampNeg)) = 0
              · rw [if_pos c7] at H
                rw [zp_if_ne_t (x := ((σ 96 x1.toNatClampNeg) &&& (σ 96 x2.toNatClampNeg))) (t := 69) zd_262_39 rfl c7]
                rw [zs_iconst (z := 0) zd_262_69 (by decide)]
                have H := Option.some.inj H
                subst H
                exact zs_ireturn zd_262_70 (by decide +kernel)
              · rw [if_neg c7] at H
                rw [zp_if_ne_f (x := ((σ 96 x1.toNatClampNeg) &&& (σ 96 x2.toNatClampNeg))) (t := 69) zd_262_39 rfl c7]
                rw [zs_aload_n (ls := [some (.ref 82), some (.int x1), some (.int x2)]) zd_262_42 rfl]
                rw [zs_iload_n (ls := [some (.ref 82), some (.int x1), some (.int x2)]) zd_262_43 rfl]
                rw [zs_bipush (z := 24) zd_262_44 (by decide)]
                rw [zp_idiv (x := x1) (y := 24) (z := (x1 / 24)) zd_262_46 (by decide) rfl]
                rw [zs_iload_n (ls := [some (.ref 82), some (.int x1), some (.int x2)]) zd_262_47 rfl]
                rw [zs_bipush (z := 24) zd_262_48 (by decide)]
                rw [zp_irem (x := x1) (y := 24) (z := (zJ_rem x1 24)) zd_262_50 (by decide) rfl]
                rw [zs_iload_n (ls := [some (.ref 82), some (.int x1), some (.int x2)]) zd_262_51 rfl]
                rw [zs_bipush (z := 24) zd_262_52 (by decide)]
                rw [zp_idiv (x := x2) (y := 24) (z := (x2 / 24)) zd_262_54 (by decide) rfl]
                rw [zs_iload_n (ls := [some (.ref 82), some (.int x1), some (.int x2)]) zd_262_55 rfl]
                rw [zs_bipush (z := 24) zd_262_56 (by decide)]
                rw [zp_irem (x := x2) (y := 24) (z := (zJ_rem x2 24)) zd_262_58 (by decide) rfl]
                obtain ⟨r8, hr8, H⟩ := Option.bind_eq_some_iff.mp H
                rw [zp_callVi (x := r8) (st := [.int (zJ_rem x2 24), .int (x2 / 24), .int (zJ_rem x1 24), .int (x1 / 24), .ref 82]) (as := [.ref 82, .int (x1 / 24), .int (zJ_rem x1 24), .int (x2 / 24), .int (zJ_rem x2 24)]) (rest := []) (e := 3) zd_262_59 rfl (by decide +kernel) (by decide) rfl rfl (Nat.le_of_ble_eq_true rfl) (zx_rcb_ok rfl (show 82 < 119 by decide)) (Nat.le_of_ble_eq_true rfl) rfl (by decide) (zt_M_meets hr8)]
                by_cases c9 : r8 = 0
                · rw [if_pos c9] at H
                  rw [zp_if_eq_t (x := r8) (t := 69) zd_262_62 rfl c9]
                  rw [zs_iconst (z := 0) zd_262_69 (by decide)]
                  have H := Option.some.inj H
                  subst H
                  exact zs_ireturn zd_262_70 (by decide +kernel)
                · rw [if_neg c9] at H
                  rw [zp_if_eq_f (x := r8) (t := 69) zd_262_62 rfl c9]
                  rw [zs_iconst (z := 1) zd_262_65 (by decide)]
                  rw [zs_goto (t := 70) zd_262_66 rfl]
                  have H := Option.some.inj H
                  subst H
                  exact zs_ireturn zd_262_70 (by decide +kernel)
            · rw [if_neg c6] at H
              cases H
          · rw [if_neg c5] at H
            cases H
      · rw [if_neg c3] at H
        cases H
    · rw [if_neg c2] at H
      cases H
set_option maxRecDepth 20000 in
theorem zt_M_rings_286 {a b L N : Nat} {k27 : zS → Int32 → Int32 → Int32 → Option (Int32 × zS)} (hk27 : ∀ {σ : zS} {τ : zT} {v1 : Int32} {v2 : Int32} {v3 : Int32} {o4 : Option Value} {o5 : Option Value} {o6 : Option Value} {r : Int32 × zS}, k27 σ v1 v2 v3 = some r → zx_go 5 259 27 [some (.ref 82), some (.int v1), some (.int v2), some (.int v3), o4, o5, o6] [] ((119, a, b), zx_pk (zK L) 119, σ, τ, zR) = some (some (.int r.1), ((119, a, b), zx_pk (zK L) 119, r.2, τ, zR))) {σ : zS} {τ : zT} {v1 : Int32} {v2 : Int32} {v3 : Int32} {o4 : Option Value} {o5 : Option Value} {o6 : Option Value} {r : Int32 × zS} (H : zb_M_rings_286 k27 N σ v1 v2 v3 = some r) : zx_go 5 259 286 [some (.ref 82), some (.int v1), some (.int v2), some (.int v3), o4, o5, o6] [] ((119, a, b), zx_pk (zK L) 119, σ, τ, zR) = some (some (.int r.1), ((119, a, b), zx_pk (zK L) 119, r.2, τ, zR)) := by
  unfold zb_M_rings_286 at H
  rw [zs_iinc (ls := [some (.ref 82), some (.int v1), some (.int v2), some (.int v3), o4, o5, o6]) (x := v3) (z := (v3 + 1)) (ls' := [some (.ref 82), some (.int v1), some (.int v2), some (.int (v3 + 1)), o4, o5, o6]) zd_259_286 rfl rfl rfl]
  rw [zs_goto (t := 27) zd_259_289 rfl]
  exact hk27 H
set_option maxRecDepth 20000 in
theorem zt_M_rings_280 {a b L N : Nat} {k43 : zS → Int32 → Int32 → Int32 → Int32 → Option (Int32 × zS)} (hk43 : ∀ {σ : zS} {τ : zT} {v1 : Int32} {v2 : Int32} {v3 : Int32} {v4 : Int32} {o5 : Option Value} {o6 : Option Value} {r : Int32 × zS}, k43 σ v1 v2 v3 v4 = some r → zx_go 5 259 43 [some (.ref 82), some (.int v1), some (.int v2), some (.int v3), some (.int v4), o5, o6] [] ((119, a, b), zx_pk (zK L) 119, σ, τ, zR) = some (some (.int r.1), ((119, a, b), zx_pk (zK L) 119, r.2, τ, zR))) {σ : zS} {τ : zT} {v1 : Int32} {v2 : Int32} {v3 : Int32} {v4 : Int32} {o5 : Option Value} {o6 : Option Value} {r : Int32 × zS} (H : zb_M_rings_280 k43 N σ v1 v2 v3 v4 = some r) : zx_go 5 259 280 [some (.ref 82), some (.int v1), some (.int v2), some (.int v3), some (.int v4), o5, o6] [] ((119, a, b), zx_pk (zK L) 119, σ, τ, zR) = some (some (.int r.1), ((119, a, b), zx_pk (zK L) 119, r.2, τ, zR)) := by
  unfold zb_M_rings_280 at H
  rw [zs_iinc (ls := [some (.ref 82), some (.int v1), some (.int v2), some (.int v3), some (.int v4), o5, o6]) (x := v4) (z := (v4 + 1)) (ls' := [some (.ref 82), some (.int v1), some (.int v2), some (.int v3), some (.int (v4 + 1)), o5, o6]) zd_259_280 rfl rfl rfl]
  rw [zs_goto (t := 43) zd_259_283 rfl]
  exact hk43 H
set_option maxRecDepth 20000 in
theorem zt_M_rings_274 {a b L N : Nat} {k118 : zS → Int32 → Int32 → Int32 → Int32 → Int32 → Option (Int32 × zS)} (hk118 : ∀ {σ : zS} {τ : zT} {v1 : Int32} {v2 : Int32} {v3 : Int32} {v4 : Int32} {v5 : Int32} {o6 : Option Value} {r : Int32 × zS}, k118 σ v1 v2 v3 v4 v5 = some r → zx_go 5 259 118 [some (.ref 82), some (.int v1), some (.int v2), some (.int v3), some (.int v4), some (.int v5), o6] [] ((119, a, b), zx_pk (zK L) 119, σ, τ, zR) = some (some (.int r.1), ((119, a, b), zx_pk (zK L) 119, r.2, τ, zR))) {σ : zS} {τ : zT} {v1 : Int32} {v2 : Int32} {v3 : Int32} {v4 : Int32} {v5 : Int32} {o6 : Option Value} {r : Int32 × zS} (H : zb_M_rings_274 k118 N σ v1 v2 v3 v4 v5 = some r) : zx_go 5 259 274 [some (.ref 82), some (.int v1), some (.int v2), some (.int v3), some (.int v4), some (.int v5), o6] [] ((119, a, b), zx_pk (zK L) 119, σ, τ, zR) = some (some (.int r.1), ((119, a, b), zx_pk (zK L) 119, r.2, τ, zR)) := by
  unfold zb_M_rings_274 at H
  rw [zs_iinc (ls := [some (.ref 82), some (.int v1), some (.int v2), some (.int v3), some (.int v4), some (.int v5), o6]) (x := v5) (z := (v5 + 1)) (ls' := [some (.ref 82), some (.int v1), some (.int v2), some (.int v3), some (.int v4), some (.int (v5 + 1)), o6]) zd_259_274 rfl rfl rfl]
  rw [zs_goto (t := 118) zd_259_277 rfl]
  exact hk118 H
set_option maxRecDepth 20000 in
theorem zt_M_rings_268 {a b L N : Nat} {k197 : zS → Int32 → Int32 → Int32 → Int32 → Int32 → Int32 → Option (Int32 × zS)} (hk197 : ∀ {σ : zS} {τ : zT} {v1 : Int32} {v2 : Int32} {v3 : Int32} {v4 : Int32} {v5 : Int32} {v6 : Int32} {r : Int32 × zS}, k197 σ v1 v2 v3 v4 v5 v6 = some r → zx_go 5 259 197 [some (.ref 82), some (.int v1), some (.int v2), some (.int v3), some (.int v4), some (.int v5), some (.int v6)] [] ((119, a, b), zx_pk (zK L) 119, σ, τ, zR) = some (some (.int r.1), ((119, a, b), zx_pk (zK L) 119, r.2, τ, zR))) {σ : zS} {τ : zT} {v1 : Int32} {v2 : Int32} {v3 : Int32} {v4 : Int32} {v5 : Int32} {v6 : Int32} {r : Int32 × zS} (H : zb_M_rings_268 k197 N σ v1 v2 v3 v4 v5 v6 = some r) : zx_go 5 259 268 [some (.ref 82), some (.int v1), some (.int v2), some (.int v3), some (.int v4), some (.int v5), some (.int v6)] [] ((119, a, b), zx_pk (zK L) 119, σ, τ, zR) = some (some (.int r.1), ((119, a, b), zx_pk (zK L) 119, r.2, τ, zR)) := by
  unfold zb_M_rings_268 at H
  rw [zs_iinc (ls := [some (.ref 82), some (.int v1), some (.int v2), some (.int v3), some (.int v4), some (.int v5), some (.int v6)]) (x := v6) (z := (v6 + 1)) (ls' := [some (.ref 82), some (.int v1), some (.int v2), some (.int v3), some (.int v4), some (.int v5), some (.int (v6 + 1))]) zd_259_268 rfl rfl rfl]
  rw [zs_goto (t := 197) zd_259_271 rfl]
  exact hk197 H
set_option maxRecDepth 20000 in
theorem zt_M_rings_197 {a b L N : Nat} {k118 : zS → Int32 → Int32 → Int32 → Int32 → Int32 → Option (Int32 × zS)} (hk118 : ∀ {σ : zS} {τ : zT} {v1 : Int32} {v2 : Int32} {v3 : Int32} {v4 : Int32} {v5 : Int32} {o6 : Option Value} {r : Int32 × zS}, k118 σ v1 v2 v3 v4 v5 = some r → zx_go 5 259 118 [some (.ref 82), some (.int v1), some (.int v2), some (.int v3), some (.int v4), some (.int v5), o6] [] ((119, a, b), zx_pk (zK L) 119, σ, τ, zR) = some (some (.int r.1), ((119, a, b), zx_pk (zK L) 119, r.2, τ, zR))) : ∀ {n : Nat} {σ : zS} {τ : zT} {v1 : Int32} {v2 : Int32} {v3 : Int32} {v4 : Int32} {v5 : Int32} {v6 : Int32} {r : Int32 × zS}, zb_M_rings_197 k118 N n σ v1 v2 v3 v4 v5 v6 = some r → zx_go 5 259 197 [some (.ref 82), some (.int v1), some (.int v2), some (.int v3), some (.int v4), some (.int v5), some (.int v6)] [] ((119, a, b), zx_pk (zK L) 119, σ, τ, zR) = some (some (.int r.1), ((119, a, b), zx_pk (zK L) 119, r.2, τ, zR)) := by
  intro n
  induction n with
  | zero =>
    intro _ _ _ _ _ _ _ _ _ H
    cases H
  | succ n ih =>
    intro σ τ v1 v2 v3 v4 v5 v6 r H
    rw [zb_M_rings_197] at H
    rw [zs_iload (ls := [some (.ref 82), some (.int v1), some (.int v2), some (.int v3), some (.int v4), some (.int v5), some (.int v6)]) zd_259_197 rfl]
    rw [zs_iload_n (ls := [some (.ref 82), some (.int v1), some (.int v2), some (.int v3), some (.int v4), some (.int v5), some (.int v6)]) zd_259_199 rfl]
    by_cases c25 : v1 ≤ v6
    · rw [if_pos c25] at H
      rw [zp_icmp_ge_t (x := v6) (y := v1) (t := 274) zd_259_200 rfl c25]
      exact zt_M_rings_274 (hk118 := hk118) H
    · rw [if_neg c25] at H
      rw [zp_icmp_ge_f (x := v6) (y := v1) (t := 274) zd_259_200 rfl c25]
      rw [zs_aload_n (ls := [some (.ref 82), some (.int v1), some (.int v2), some (.int v3), some (.int v4), some (.int v5), some (.int v6)]) zd_259_203 rfl]
      rw [zs_iload (ls := [some (.ref 82), some (.int v1), some (.int v2), some (.int v3), some (.int v4), some (.int v5), some (.int v6)]) zd_259_204 rfl]
      obtain ⟨r26, hr26, H⟩ := Option.bind_eq_some_iff.mp H
      rw [zp_callVi (x := r26) (st := [.int v6, .ref 82]) (as := [.ref 82, .int v6]) (rest := []) (e := 0) zd_259_206 rfl (by decide +kernel) (by decide) rfl rfl (Nat.le_of_ble_eq_true rfl) (zx_rcb_ok rfl (show 82 < 119 by decide)) (Nat.le_of_ble_eq_true rfl) rfl (by decide) (zt_M_isTaking hr26)]
      by_cases c27 : r26 = 0
      · rw [if_pos c27] at H
        rw [zp_if_eq_t (x := r26) (t := 268) zd_259_209 rfl c27]
        exact zt_M_rings_268 (hk197 := ih) H
      · rw [if_neg c27] at H
        rw [zp_if_eq_f (x := r26) (t := 268) zd_259_209 rfl c27]
        rw [zs_aload_n (ls := [some (.ref 82), some (.int v1), some (.int v2), some (.int v3), some (.int v4), some (.int v5), some (.int v6)]) zd_259_212 rfl]
        rw [zs_iload (ls := [some (.ref 82), some (.int v1), some (.int v2), some (.int v3), some (.int v4), some (.int v5), some (.int v6)]) zd_259_213 rfl]
        rw [zs_iload (ls := [some (.ref 82), some (.int v1), some (.int v2), some (.int v3), some (.int v4), some (.int v5), some (.int v6)]) zd_259_215 rfl]
        obtain ⟨r28, hr28, H⟩ := Option.bind_eq_some_iff.mp H
        rw [zp_callVi (x := r28) (st := [.int v6, .int v5, .ref 82]) (as := [.ref 82, .int v5, .int v6]) (rest := []) (e := 0) zd_259_217 rfl (by decide +kernel) (by decide) rfl rfl (Nat.le_of_ble_eq_true rfl) (zx_rcb_ok rfl (show 82 < 119 by decide)) (Nat.le_of_ble_eq_true rfl) rfl (by decide) (zt_M_isHeld hr28)]
        by_cases c29 : r28 = 0
        · rw [if_pos c29] at H
          rw [zp_if_eq_t (x := r28) (t := 268) zd_259_220 rfl c29]
          exact zt_M_rings_268 (hk197 := ih) H
        · rw [if_neg c29] at H
          rw [zp_if_eq_f (x := r28) (t := 268) zd_259_220 rfl c29]
          rw [zs_aload_n (ls := [some (.ref 82), some (.int v1), some (.int v2), some (.int v3), some (.int v4), some (.int v5), some (.int v6)]) zd_259_223 rfl]
          rw [zs_iload (ls := [some (.ref 82), some (.int v1), some (.int v2), some (.int v3), some (.int v4), some (.int v5), some (.int v6)]) zd_259_224 rfl]
          rw [zs_iload_n (ls := [some (.ref 82), some (.int v1), some (.int v2), some (.int v3), some (.int v4), some (.int v5), some (.int v6)]) zd_259_226 rfl]
          obtain ⟨r30, hr30, H⟩ := Option.bind_eq_some_iff.mp H
          rw [zp_callVi (x := r30) (st := [.int v3, .int v6, .ref 82]) (as := [.ref 82, .int v6, .int v3]) (rest := []) (e := 0) zd_259_227 rfl (by decide +kernel) (by decide) rfl rfl (Nat.le_of_ble_eq_true rfl) (zx_rcb_ok rfl (show 82 < 119 by decide)) (Nat.le_of_ble_eq_true rfl) rfl (by decide) (zt_M_isHeld hr30)]
          by_cases c31 : r30 = 0
          · rw [if_pos c31] at H
            rw [zp_if_eq_t (x := r30) (t := 268) zd_259_230 rfl c31]
            exact zt_M_rings_268 (hk197 := ih) H
          · rw [if_neg c31] at H
            rw [zp_if_eq_f (x := r30) (t := 268) zd_259_230 rfl c31]
            rw [zs_aload_n (ls := [some (.ref 82), some (.int v1), some (.int v2), some (.int v3), some (.int v4), some (.int v5), some (.int v6)]) zd_259_233 rfl]
            rw [zs_iload_n (ls := [some (.ref 82), some (.int v1), some (.int v2), some (.int v3), some (.int v4), some (.int v5), some (.int v6)]) zd_259_234 rfl]
            rw [zs_iload (ls := [some (.ref 82), some (.int v1), some (.int v2), some (.int v3), some (.int v4), some (.int v5), some (.int v6)]) zd_259_235 rfl]
            obtain ⟨r32, hr32, H⟩ := Option.bind_eq_some_iff.mp H
            rw [zp_callVi (x := r32) (st := [.int v6, .int v3, .ref 82]) (as := [.ref 82, .int v3, .int v6]) (rest := []) (e := 4) zd_259_237 rfl (by decide +kernel) (by decide) rfl rfl (Nat.le_of_ble_eq_true rfl) (zx_rcb_ok rfl (show 82 < 119 by decide)) (Nat.le_of_ble_eq_true rfl) rfl (by decide) (zt_M_goTogether hr32)]
            by_cases c33 : r32 = 0
            · rw [if_pos c33] at H
              rw [zp_if_eq_t (x := r32) (t := 268) zd_259_240 rfl c33]
              exact zt_M_rings_268 (hk197 := ih) H
            · rw [if_neg c33] at H
              rw [zp_if_eq_f (x := r32) (t := 268) zd_259_240 rfl c33]
              rw [zs_aload_n (ls := [some (.ref 82), some (.int v1), some (.int v2), some (.int v3), some (.int v4), some (.int v5), some (.int v6)]) zd_259_243 rfl]
              rw [zs_iload (ls := [some (.ref 82), some (.int v1), some (.int v2), some (.int v3), some (.int v4), some (.int v5), some (.int v6)]) zd_259_244 rfl]
              rw [zs_iload (ls := [some (.ref 82), some (.int v1), some (.int v2), some (.int v3), some (.int v4), some (.int v5), some (.int v6)]) zd_259_246 rfl]
              obtain ⟨r34, hr34, H⟩ := Option.bind_eq_some_iff.mp H
              rw [zp_callVi (x := r34) (st := [.int v6, .int v4, .ref 82]) (as := [.ref 82, .int v4, .int v6]) (rest := []) (e := 4) zd_259_248 rfl (by decide +kernel) (by decide) rfl rfl (Nat.le_of_ble_eq_true rfl) (zx_rcb_ok rfl (show 82 < 119 by decide)) (Nat.le_of_ble_eq_true rfl) rfl (by decide) (zt_M_goTogether hr34)]
              by_cases c35 : r34 = 0
              · rw [if_pos c35] at H
                rw [zp_if_eq_t (x := r34) (t := 268) zd_259_251 rfl c35]
                exact zt_M_rings_268 (hk197 := ih) H
              · rw [if_neg c35] at H
                rw [zp_if_eq_f (x := r34) (t := 268) zd_259_251 rfl c35]
                rw [zs_aload_n (ls := [some (.ref 82), some (.int v1), some (.int v2), some (.int v3), some (.int v4), some (.int v5), some (.int v6)]) zd_259_254 rfl]
                rw [zs_iload (ls := [some (.ref 82), some (.int v1), some (.int v2), some (.int v3), some (.int v4), some (.int v5), some (.int v6)]) zd_259_255 rfl]
                rw [zs_iload (ls := [some (.ref 82), some (.int v1), some (.int v2), some (.int v3), some (.int v4), some (.int v5), some (.int v6)]) zd_259_257 rfl]
                obtain ⟨r36, hr36, H⟩ := Option.bind_eq_some_iff.mp H
                rw [zp_callVi (x := r36) (st := [.int v6, .int v5, .ref 82]) (as := [.ref 82, .int v5, .int v6]) (rest := []) (e := 4) zd_259_259 rfl (by decide +kernel) (by decide) rfl rfl (Nat.le_of_ble_eq_true rfl) (zx_rcb_ok rfl (show 82 < 119 by decide)) (Nat.le_of_ble_eq_true rfl) rfl (by decide) (zt_M_goTogether hr36)]
                by_cases c37 : r36 = 0
                · rw [if_pos c37] at H
                  rw [zp_if_eq_t (x := r36) (t := 268) zd_259_262 rfl c37]
                  exact zt_M_rings_268 (hk197 := ih) H
                · rw [if_neg c37] at H
                  rw [zp_if_eq_f (x := r36) (t := 268) zd_259_262 rfl c37]
                  rw [zs_iinc (ls := [some (.ref 82), some (.int v1), some (.int v2), some (.int v3), some (.int v4), some (.int v5), some (.int v6)]) (x := v2) (z := (v2 + 1)) (ls' := [some (.ref 82), some (.int v1), some (.int (v2 + 1)), some (.int v3), some (.int v4), some (.int v5), some (.int v6)]) zd_259_265 rfl rfl rfl]
                  exact zt_M_rings_268 (hk197 := ih) H
set_option maxRecDepth 20000 in
theorem zt_M_rings_184 {a b L N : Nat} {k118 : zS → Int32 → Int32 → Int32 → Int32 → Int32 → Option (Int32 × zS)} (hk118 : ∀ {σ : zS} {τ : zT} {v1 : Int32} {v2 : Int32} {v3 : Int32} {v4 : Int32} {v5 : Int32} {o6 : Option Value} {r : Int32 × zS}, k118 σ v1 v2 v3 v4 v5 = some r → zx_go 5 259 118 [some (.ref 82), some (.int v1), some (.int v2), some (.int v3), some (.int v4), some (.int v5), o6] [] ((119, a, b), zx_pk (zK L) 119, σ, τ, zR) = some (some (.int r.1), ((119, a, b), zx_pk (zK L) 119, r.2, τ, zR))) {σ : zS} {τ : zT} {v1 : Int32} {v3 : Int32} {v4 : Int32} {v5 : Int32} {s0 : Int32} {s1 : Int32} {o2 : Option Value} {o6 : Option Value} {r : Int32 × zS} (H : zb_M_rings_184 k118 N σ v1 v3 v4 v5 s0 s1 = some r) : zx_go 5 259 184 [some (.ref 82), some (.int v1), o2, some (.int v3), some (.int v4), some (.int v5), o6] [.int s0, .int s1] ((119, a, b), zx_pk (zK L) 119, σ, τ, zR) = some (some (.int r.1), ((119, a, b), zx_pk (zK L) 119, r.2, τ, zR)) := by
  unfold zb_M_rings_184 at H
  rw [zp_iadd (x := s1) (y := s0) (z := (s1 + s0)) zd_259_184 rfl]
  rw [zs_istore_n (x := (s1 + s0)) (ls' := [some (.ref 82), some (.int v1), some (.int (s1 + s0)), some (.int v3), some (.int v4), some (.int v5), o6]) zd_259_185 (Nat.le_of_ble_eq_true rfl) rfl]
  rw [zs_bipush (z := 24) zd_259_186 (by decide)]
  rw [zs_iload_n (ls := [some (.ref 82), some (.int v1), some (.int (s1 + s0)), some (.int v3), some (.int v4), some (.int v5), o6]) zd_259_188 rfl]
  rw [zs_bipush (z := 24) zd_259_189 (by decide)]
  rw [zp_idiv (x := v3) (y := 24) (z := (v3 / 24)) zd_259_191 (by decide) rfl]
  rw [zs_iconst (z := 1) zd_259_192 (by decide)]
  rw [zp_iadd (x := (v3 / 24)) (y := 1) (z := ((v3 / 24) + 1)) zd_259_193 rfl]
  rw [zp_imul (x := 24) (y := ((v3 / 24) + 1)) (z := (24 * ((v3 / 24) + 1))) zd_259_194 rfl]
  rw [zs_istore (x := (24 * ((v3 / 24) + 1))) (ls' := [some (.ref 82), some (.int v1), some (.int (s1 + s0)), some (.int v3), some (.int v4), some (.int v5), some (.int (24 * ((v3 / 24) + 1)))]) zd_259_195 (Nat.le_of_ble_eq_true rfl) rfl]
  exact zt_M_rings_197 (hk118 := hk118) H
set_option maxRecDepth 20000 in
theorem zt_M_rings_118 {a b L N : Nat} {k43 : zS → Int32 → Int32 → Int32 → Int32 → Option (Int32 × zS)} (hk43 : ∀ {σ : zS} {τ : zT} {v1 : Int32} {v2 : Int32} {v3 : Int32} {v4 : Int32} {o5 : Option Value} {o6 : Option Value} {r : Int32 × zS}, k43 σ v1 v2 v3 v4 = some r → zx_go 5 259 43 [some (.ref 82), some (.int v1), some (.int v2), some (.int v3), some (.int v4), o5, o6] [] ((119, a, b), zx_pk (zK L) 119, σ, τ, zR) = some (some (.int r.1), ((119, a, b), zx_pk (zK L) 119, r.2, τ, zR))) : ∀ {n : Nat} {σ : zS} {τ : zT} {v1 : Int32} {v2 : Int32} {v3 : Int32} {v4 : Int32} {v5 : Int32} {o6 : Option Value} {r : Int32 × zS}, zb_M_rings_118 k43 N n σ v1 v2 v3 v4 v5 = some r → zx_go 5 259 118 [some (.ref 82), some (.int v1), some (.int v2), some (.int v3), some (.int v4), some (.int v5), o6] [] ((119, a, b), zx_pk (zK L) 119, σ, τ, zR) = some (some (.int r.1), ((119, a, b), zx_pk (zK L) 119, r.2, τ, zR)) := by
  intro n
  induction n with
  | zero =>
    intro _ _ _ _ _ _ _ _ _ H
    cases H
  | succ n ih =>
    intro σ τ v1 v2 v3 v4 v5 o6 r H
    rw [zb_M_rings_118] at H
    rw [zs_iload (ls := [some (.ref 82), some (.int v1), some (.int v2), some (.int v3), some (.int v4), some (.int v5), o6]) zd_259_118 rfl]
    rw [zs_iload_n (ls := [some (.ref 82), some (.int v1), some (.int v2), some (.int v3), some (.int v4), some (.int v5), o6]) zd_259_120 rfl]
    by_cases c14 : v1 ≤ v5
    · rw [if_pos c14] at H
      rw [zp_icmp_ge_t (x := v5) (y := v1) (t := 280) zd_259_121 rfl c14]
      exact zt_M_rings_280 (hk43 := hk43) H
    · rw [if_neg c14] at H
      rw [zp_icmp_ge_f (x := v5) (y := v1) (t := 280) zd_259_121 rfl c14]
      rw [zs_aload_n (ls := [some (.ref 82), some (.int v1), some (.int v2), some (.int v3), some (.int v4), some (.int v5), o6]) zd_259_124 rfl]
      rw [zs_iload (ls := [some (.ref 82), some (.int v1), some (.int v2), some (.int v3), some (.int v4), some (.int v5), o6]) zd_259_125 rfl]
      obtain ⟨r15, hr15, H⟩ := Option.bind_eq_some_iff.mp H
      rw [zp_callVi (x := r15) (st := [.int v5, .ref 82]) (as := [.ref 82, .int v5]) (rest := []) (e := 0) zd_259_127 rfl (by decide +kernel) (by decide) rfl rfl (Nat.le_of_ble_eq_true rfl) (zx_rcb_ok rfl (show 82 < 119 by decide)) (Nat.le_of_ble_eq_true rfl) rfl (by decide) (zt_M_isTaking hr15)]
      by_cases c16 : r15 = 0
      · rw [if_pos c16] at H
        rw [zp_if_eq_t (x := r15) (t := 274) zd_259_130 rfl c16]
        exact zt_M_rings_274 (hk118 := ih) H
      · rw [if_neg c16] at H
        rw [zp_if_eq_f (x := r15) (t := 274) zd_259_130 rfl c16]
        rw [zs_aload_n (ls := [some (.ref 82), some (.int v1), some (.int v2), some (.int v3), some (.int v4), some (.int v5), o6]) zd_259_133 rfl]
        rw [zs_iload (ls := [some (.ref 82), some (.int v1), some (.int v2), some (.int v3), some (.int v4), some (.int v5), o6]) zd_259_134 rfl]
        rw [zs_iload (ls := [some (.ref 82), some (.int v1), some (.int v2), some (.int v3), some (.int v4), some (.int v5), o6]) zd_259_136 rfl]
        obtain ⟨r17, hr17, H⟩ := Option.bind_eq_some_iff.mp H
        rw [zp_callVi (x := r17) (st := [.int v5, .int v4, .ref 82]) (as := [.ref 82, .int v4, .int v5]) (rest := []) (e := 0) zd_259_138 rfl (by decide +kernel) (by decide) rfl rfl (Nat.le_of_ble_eq_true rfl) (zx_rcb_ok rfl (show 82 < 119 by decide)) (Nat.le_of_ble_eq_true rfl) rfl (by decide) (zt_M_isHeld hr17)]
        by_cases c18 : r17 = 0
        · rw [if_pos c18] at H
          rw [zp_if_eq_t (x := r17) (t := 274) zd_259_141 rfl c18]
          exact zt_M_rings_274 (hk118 := ih) H
        · rw [if_neg c18] at H
          rw [zp_if_eq_f (x := r17) (t := 274) zd_259_141 rfl c18]
          rw [zs_aload_n (ls := [some (.ref 82), some (.int v1), some (.int v2), some (.int v3), some (.int v4), some (.int v5), o6]) zd_259_144 rfl]
          rw [zs_iload_n (ls := [some (.ref 82), some (.int v1), some (.int v2), some (.int v3), some (.int v4), some (.int v5), o6]) zd_259_145 rfl]
          rw [zs_iload (ls := [some (.ref 82), some (.int v1), some (.int v2), some (.int v3), some (.int v4), some (.int v5), o6]) zd_259_146 rfl]
          obtain ⟨r19, hr19, H⟩ := Option.bind_eq_some_iff.mp H
          rw [zp_callVi (x := r19) (st := [.int v5, .int v3, .ref 82]) (as := [.ref 82, .int v3, .int v5]) (rest := []) (e := 4) zd_259_148 rfl (by decide +kernel) (by decide) rfl rfl (Nat.le_of_ble_eq_true rfl) (zx_rcb_ok rfl (show 82 < 119 by decide)) (Nat.le_of_ble_eq_true rfl) rfl (by decide) (zt_M_goTogether hr19)]
          by_cases c20 : r19 = 0
          · rw [if_pos c20] at H
            rw [zp_if_eq_t (x := r19) (t := 274) zd_259_151 rfl c20]
            exact zt_M_rings_274 (hk118 := ih) H
          · rw [if_neg c20] at H
            rw [zp_if_eq_f (x := r19) (t := 274) zd_259_151 rfl c20]
            rw [zs_aload_n (ls := [some (.ref 82), some (.int v1), some (.int v2), some (.int v3), some (.int v4), some (.int v5), o6]) zd_259_154 rfl]
            rw [zs_iload (ls := [some (.ref 82), some (.int v1), some (.int v2), some (.int v3), some (.int v4), some (.int v5), o6]) zd_259_155 rfl]
            rw [zs_iload (ls := [some (.ref 82), some (.int v1), some (.int v2), some (.int v3), some (.int v4), some (.int v5), o6]) zd_259_157 rfl]
            obtain ⟨r21, hr21, H⟩ := Option.bind_eq_some_iff.mp H
            rw [zp_callVi (x := r21) (st := [.int v5, .int v4, .ref 82]) (as := [.ref 82, .int v4, .int v5]) (rest := []) (e := 4) zd_259_159 rfl (by decide +kernel) (by decide) rfl rfl (Nat.le_of_ble_eq_true rfl) (zx_rcb_ok rfl (show 82 < 119 by decide)) (Nat.le_of_ble_eq_true rfl) rfl (by decide) (zt_M_goTogether hr21)]
            by_cases c22 : ¬ r21 = 0
            · rw [if_pos c22] at H
              rw [zp_if_ne_t (x := r21) (t := 168) zd_259_162 rfl c22]
              rw [zs_iload_n (ls := [some (.ref 82), some (.int v1), some (.int v2), some (.int v3), some (.int v4), some (.int v5), o6]) zd_259_168 rfl]
              rw [zs_aload_n (ls := [some (.ref 82), some (.int v1), some (.int v2), some (.int v3), some (.int v4), some (.int v5), o6]) zd_259_169 rfl]
              rw [zs_iload (ls := [some (.ref 82), some (.int v1), some (.int v2), some (.int v3), some (.int v4), some (.int v5), o6]) zd_259_170 rfl]
              rw [zs_iload_n (ls := [some (.ref 82), some (.int v1), some (.int v2), some (.int v3), some (.int v4), some (.int v5), o6]) zd_259_172 rfl]
              obtain ⟨r23, hr23, H⟩ := Option.bind_eq_some_iff.mp H
              rw [zp_callVi (x := r23) (st := [.int v3, .int v5, .ref 82, .int v2]) (as := [.ref 82, .int v5, .int v3]) (rest := [.int v2]) (e := 0) zd_259_173 rfl (by decide +kernel) (by decide) rfl rfl (Nat.le_of_ble_eq_true rfl) (zx_rcb_ok rfl (show 82 < 119 by decide)) (Nat.le_of_ble_eq_true rfl) rfl (by decide) (zt_M_isHeld hr23)]
              by_cases c24 : r23 = 0
              · rw [if_pos c24] at H
                rw [zp_if_eq_t (x := r23) (t := 183) zd_259_176 rfl c24]
                rw [zs_iconst (z := 0) zd_259_183 (by decide)]
                exact zt_M_rings_184 (hk118 := ih) H
              · rw [if_neg c24] at H
                rw [zp_if_eq_f (x := r23) (t := 183) zd_259_176 rfl c24]
                rw [zs_iconst (z := 1) zd_259_179 (by decide)]
                rw [zs_goto (t := 184) zd_259_180 rfl]
                exact zt_M_rings_184 (hk118 := ih) H
            · rw [if_neg c22] at H
              rw [zp_if_ne_f (x := r21) (t := 168) zd_259_162 rfl c22]
              rw [zs_goto (t := 274) zd_259_165 rfl]
              exact zt_M_rings_274 (hk118 := ih) H
set_option maxRecDepth 20000 in
theorem zt_M_rings_105 {a b L N : Nat} {k43 : zS → Int32 → Int32 → Int32 → Int32 → Option (Int32 × zS)} (hk43 : ∀ {σ : zS} {τ : zT} {v1 : Int32} {v2 : Int32} {v3 : Int32} {v4 : Int32} {o5 : Option Value} {o6 : Option Value} {r : Int32 × zS}, k43 σ v1 v2 v3 v4 = some r → zx_go 5 259 43 [some (.ref 82), some (.int v1), some (.int v2), some (.int v3), some (.int v4), o5, o6] [] ((119, a, b), zx_pk (zK L) 119, σ, τ, zR) = some (some (.int r.1), ((119, a, b), zx_pk (zK L) 119, r.2, τ, zR))) {σ : zS} {τ : zT} {v1 : Int32} {v3 : Int32} {v4 : Int32} {s0 : Int32} {s1 : Int32} {o2 : Option Value} {o5 : Option Value} {o6 : Option Value} {r : Int32 × zS} (H : zb_M_rings_105 k43 N σ v1 v3 v4 s0 s1 = some r) : zx_go 5 259 105 [some (.ref 82), some (.int v1), o2, some (.int v3), some (.int v4), o5, o6] [.int s0, .int s1] ((119, a, b), zx_pk (zK L) 119, σ, τ, zR) = some (some (.int r.1), ((119, a, b), zx_pk (zK L) 119, r.2, τ, zR)) := by
  unfold zb_M_rings_105 at H
  rw [zp_iadd (x := s1) (y := s0) (z := (s1 + s0)) zd_259_105 rfl]
  rw [zs_istore_n (x := (s1 + s0)) (ls' := [some (.ref 82), some (.int v1), some (.int (s1 + s0)), some (.int v3), some (.int v4), o5, o6]) zd_259_106 (Nat.le_of_ble_eq_true rfl) rfl]
  rw [zs_bipush (z := 24) zd_259_107 (by decide)]
  rw [zs_iload_n (ls := [some (.ref 82), some (.int v1), some (.int (s1 + s0)), some (.int v3), some (.int v4), o5, o6]) zd_259_109 rfl]
  rw [zs_bipush (z := 24) zd_259_110 (by decide)]
  rw [zp_idiv (x := v3) (y := 24) (z := (v3 / 24)) zd_259_112 (by decide) rfl]
  rw [zs_iconst (z := 1) zd_259_113 (by decide)]
  rw [zp_iadd (x := (v3 / 24)) (y := 1) (z := ((v3 / 24) + 1)) zd_259_114 rfl]
  rw [zp_imul (x := 24) (y := ((v3 / 24) + 1)) (z := (24 * ((v3 / 24) + 1))) zd_259_115 rfl]
  rw [zs_istore (x := (24 * ((v3 / 24) + 1))) (ls' := [some (.ref 82), some (.int v1), some (.int (s1 + s0)), some (.int v3), some (.int v4), some (.int (24 * ((v3 / 24) + 1))), o6]) zd_259_116 (Nat.le_of_ble_eq_true rfl) rfl]
  exact zt_M_rings_118 (hk43 := hk43) H
set_option maxRecDepth 20000 in
theorem zt_M_rings_43 {a b L N : Nat} {k27 : zS → Int32 → Int32 → Int32 → Option (Int32 × zS)} (hk27 : ∀ {σ : zS} {τ : zT} {v1 : Int32} {v2 : Int32} {v3 : Int32} {o4 : Option Value} {o5 : Option Value} {o6 : Option Value} {r : Int32 × zS}, k27 σ v1 v2 v3 = some r → zx_go 5 259 27 [some (.ref 82), some (.int v1), some (.int v2), some (.int v3), o4, o5, o6] [] ((119, a, b), zx_pk (zK L) 119, σ, τ, zR) = some (some (.int r.1), ((119, a, b), zx_pk (zK L) 119, r.2, τ, zR))) : ∀ {n : Nat} {σ : zS} {τ : zT} {v1 : Int32} {v2 : Int32} {v3 : Int32} {v4 : Int32} {o5 : Option Value} {o6 : Option Value} {r : Int32 × zS}, zb_M_rings_43 k27 N n σ v1 v2 v3 v4 = some r → zx_go 5 259 43 [some (.ref 82), some (.int v1), some (.int v2), some (.int v3), some (.int v4), o5, o6] [] ((119, a, b), zx_pk (zK L) 119, σ, τ, zR) = some (some (.int r.1), ((119, a, b), zx_pk (zK L) 119, r.2, τ, zR)) := by
  intro n
  induction n with
  | zero =>
    intro _ _ _ _ _ _ _ _ _ H
    cases H
  | succ n ih =>
    intro σ τ v1 v2 v3 v4 o5 o6 r H
    rw [zb_M_rings_43] at H
    rw [zs_iload (ls := [some (.ref 82), some (.int v1), some (.int v2), some (.int v3), some (.int v4), o5, o6]) zd_259_43 rfl]
    rw [zs_iload_n (ls := [some (.ref 82), some (.int v1), some (.int v2), some (.int v3), some (.int v4), o5, o6]) zd_259_45 rfl]
    by_cases c3 : v1 ≤ v4
    · rw [if_pos c3] at H
      rw [zp_icmp_ge_t (x := v4) (y := v1) (t := 286) zd_259_46 rfl c3]
      exact zt_M_rings_286 (hk27 := hk27) H
    · rw [if_neg c3] at H
      rw [zp_icmp_ge_f (x := v4) (y := v1) (t := 286) zd_259_46 rfl c3]
      rw [zs_aload_n (ls := [some (.ref 82), some (.int v1), some (.int v2), some (.int v3), some (.int v4), o5, o6]) zd_259_49 rfl]
      rw [zs_iload_n (ls := [some (.ref 82), some (.int v1), some (.int v2), some (.int v3), some (.int v4), o5, o6]) zd_259_50 rfl]
      obtain ⟨r4, hr4, H⟩ := Option.bind_eq_some_iff.mp H
      rw [zp_callVi (x := r4) (st := [.int v3, .ref 82]) (as := [.ref 82, .int v3]) (rest := []) (e := 0) zd_259_51 rfl (by decide +kernel) (by decide) rfl rfl (Nat.le_of_ble_eq_true rfl) (zx_rcb_ok rfl (show 82 < 119 by decide)) (Nat.le_of_ble_eq_true rfl) rfl (by decide) (zt_M_isTaking hr4)]
      by_cases c5 : r4 = 0
      · rw [if_pos c5] at H
        rw [zp_if_eq_t (x := r4) (t := 286) zd_259_54 rfl c5]
        exact zt_M_rings_286 (hk27 := hk27) H
      · rw [if_neg c5] at H
        rw [zp_if_eq_f (x := r4) (t := 286) zd_259_54 rfl c5]
        rw [zs_aload_n (ls := [some (.ref 82), some (.int v1), some (.int v2), some (.int v3), some (.int v4), o5, o6]) zd_259_57 rfl]
        rw [zs_iload (ls := [some (.ref 82), some (.int v1), some (.int v2), some (.int v3), some (.int v4), o5, o6]) zd_259_58 rfl]
        obtain ⟨r6, hr6, H⟩ := Option.bind_eq_some_iff.mp H
        rw [zp_callVi (x := r6) (st := [.int v4, .ref 82]) (as := [.ref 82, .int v4]) (rest := []) (e := 0) zd_259_60 rfl (by decide +kernel) (by decide) rfl rfl (Nat.le_of_ble_eq_true rfl) (zx_rcb_ok rfl (show 82 < 119 by decide)) (Nat.le_of_ble_eq_true rfl) rfl (by decide) (zt_M_isTaking hr6)]
        by_cases c7 : r6 = 0
        · rw [if_pos c7] at H
          rw [zp_if_eq_t (x := r6) (t := 280) zd_259_63 rfl c7]
          exact zt_M_rings_280 (hk43 := ih) H
        · rw [if_neg c7] at H
          rw [zp_if_eq_f (x := r6) (t := 280) zd_259_63 rfl c7]
          rw [zs_aload_n (ls := [some (.ref 82), some (.int v1), some (.int v2), some (.int v3), some (.int v4), o5, o6]) zd_259_66 rfl]
          rw [zs_iload_n (ls := [some (.ref 82), some (.int v1), some (.int v2), some (.int v3), some (.int v4), o5, o6]) zd_259_67 rfl]
          rw [zs_iload (ls := [some (.ref 82), some (.int v1), some (.int v2), some (.int v3), some (.int v4), o5, o6]) zd_259_68 rfl]
          obtain ⟨r8, hr8, H⟩ := Option.bind_eq_some_iff.mp H
          rw [zp_callVi (x := r8) (st := [.int v4, .int v3, .ref 82]) (as := [.ref 82, .int v3, .int v4]) (rest := []) (e := 0) zd_259_70 rfl (by decide +kernel) (by decide) rfl rfl (Nat.le_of_ble_eq_true rfl) (zx_rcb_ok rfl (show 82 < 119 by decide)) (Nat.le_of_ble_eq_true rfl) rfl (by decide) (zt_M_isHeld hr8)]
          by_cases c9 : r8 = 0
          · rw [if_pos c9] at H
            rw [zp_if_eq_t (x := r8) (t := 280) zd_259_73 rfl c9]
            exact zt_M_rings_280 (hk43 := ih) H
          · rw [if_neg c9] at H
            rw [zp_if_eq_f (x := r8) (t := 280) zd_259_73 rfl c9]
            rw [zs_aload_n (ls := [some (.ref 82), some (.int v1), some (.int v2), some (.int v3), some (.int v4), o5, o6]) zd_259_76 rfl]
            rw [zs_iload_n (ls := [some (.ref 82), some (.int v1), some (.int v2), some (.int v3), some (.int v4), o5, o6]) zd_259_77 rfl]
            rw [zs_iload (ls := [some (.ref 82), some (.int v1), some (.int v2), some (.int v3), some (.int v4), o5, o6]) zd_259_78 rfl]
            obtain ⟨r10, hr10, H⟩ := Option.bind_eq_some_iff.mp H
            rw [zp_callVi (x := r10) (st := [.int v4, .int v3, .ref 82]) (as := [.ref 82, .int v3, .int v4]) (rest := []) (e := 4) zd_259_80 rfl (by decide +kernel) (by decide) rfl rfl (Nat.le_of_ble_eq_true rfl) (zx_rcb_ok rfl (show 82 < 119 by decide)) (Nat.le_of_ble_eq_true rfl) rfl (by decide) (zt_M_goTogether hr10)]
            by_cases c11 : ¬ r10 = 0
            · rw [if_pos c11] at H
              rw [zp_if_ne_t (x := r10) (t := 89) zd_259_83 rfl c11]
              rw [zs_iload_n (ls := [some (.ref 82), some (.int v1), some (.int v2), some (.int v3), some (.int v4), o5, o6]) zd_259_89 rfl]
              rw [zs_aload_n (ls := [some (.ref 82), some (.int v1), some (.int v2), some (.int v3), some (.int v4), o5, o6]) zd_259_90 rfl]
              rw [zs_iload (ls := [some (.ref 82), some (.int v1), some (.int v2), some (.int v3), some (.int v4), o5, o6]) zd_259_91 rfl]
              rw [zs_iload_n (ls := [some (.ref 82), some (.int v1), some (.int v2), some (.int v3), some (.int v4), o5, o6]) zd_259_93 rfl]
              obtain ⟨r12, hr12, H⟩ := Option.bind_eq_some_iff.mp H
              rw [zp_callVi (x := r12) (st := [.int v3, .int v4, .ref 82, .int v2]) (as := [.ref 82, .int v4, .int v3]) (rest := [.int v2]) (e := 0) zd_259_94 rfl (by decide +kernel) (by decide) rfl rfl (Nat.le_of_ble_eq_true rfl) (zx_rcb_ok rfl (show 82 < 119 by decide)) (Nat.le_of_ble_eq_true rfl) rfl (by decide) (zt_M_isHeld hr12)]
              by_cases c13 : r12 = 0
              · rw [if_pos c13] at H
                rw [zp_if_eq_t (x := r12) (t := 104) zd_259_97 rfl c13]
                rw [zs_iconst (z := 0) zd_259_104 (by decide)]
                exact zt_M_rings_105 (hk43 := ih) H
              · rw [if_neg c13] at H
                rw [zp_if_eq_f (x := r12) (t := 104) zd_259_97 rfl c13]
                rw [zs_iconst (z := 1) zd_259_100 (by decide)]
                rw [zs_goto (t := 105) zd_259_101 rfl]
                exact zt_M_rings_105 (hk43 := ih) H
            · rw [if_neg c11] at H
              rw [zp_if_ne_f (x := r10) (t := 89) zd_259_83 rfl c11]
              rw [zs_goto (t := 280) zd_259_86 rfl]
              exact zt_M_rings_280 (hk43 := ih) H
set_option maxRecDepth 20000 in
theorem zt_M_rings_27 {a b L N : Nat} : ∀ {n : Nat} {σ : zS} {τ : zT} {v1 : Int32} {v2 : Int32} {v3 : Int32} {o4 : Option Value} {o5 : Option Value} {o6 : Option Value} {r : Int32 × zS}, zb_M_rings_27 N n σ v1 v2 v3 = some r → zx_go 5 259 27 [some (.ref 82), some (.int v1), some (.int v2), some (.int v3), o4, o5, o6] [] ((119, a, b), zx_pk (zK L) 119, σ, τ, zR) = some (some (.int r.1), ((119, a, b), zx_pk (zK L) 119, r.2, τ, zR)) := by
  intro n
  induction n with
  | zero =>
    intro _ _ _ _ _ _ _ _ _ H
    cases H
  | succ n ih =>
    intro σ τ v1 v2 v3 o4 o5 o6 r H
    rw [zb_M_rings_27] at H
    rw [zs_iload_n (ls := [some (.ref 82), some (.int v1), some (.int v2), some (.int v3), o4, o5, o6]) zd_259_27 rfl]
    rw [zs_iload_n (ls := [some (.ref 82), some (.int v1), some (.int v2), some (.int v3), o4, o5, o6]) zd_259_28 rfl]
    by_cases c2 : v1 ≤ v3
    · rw [if_pos c2] at H
      rw [zp_icmp_ge_t (x := v3) (y := v1) (t := 292) zd_259_29 rfl c2]
      rw [zs_iload_n (ls := [some (.ref 82), some (.int v1), some (.int v2), some (.int v3), o4, o5, o6]) zd_259_292 rfl]
      have H := Option.some.inj H
      subst H
      exact zs_ireturn zd_259_293 rfl
    · rw [if_neg c2] at H
      rw [zp_icmp_ge_f (x := v3) (y := v1) (t := 292) zd_259_29 rfl c2]
      rw [zs_bipush (z := 24) zd_259_32 (by decide)]
      rw [zs_iload_n (ls := [some (.ref 82), some (.int v1), some (.int v2), some (.int v3), o4, o5, o6]) zd_259_34 rfl]
      rw [zs_bipush (z := 24) zd_259_35 (by decide)]
      rw [zp_idiv (x := v3) (y := 24) (z := (v3 / 24)) zd_259_37 (by decide) rfl]
      rw [zs_iconst (z := 1) zd_259_38 (by decide)]
      rw [zp_iadd (x := (v3 / 24)) (y := 1) (z := ((v3 / 24) + 1)) zd_259_39 rfl]
      rw [zp_imul (x := 24) (y := ((v3 / 24) + 1)) (z := (24 * ((v3 / 24) + 1))) zd_259_40 rfl]
      rw [zs_istore (x := (24 * ((v3 / 24) + 1))) (ls' := [some (.ref 82), some (.int v1), some (.int v2), some (.int v3), some (.int (24 * ((v3 / 24) + 1))), o5, o6]) zd_259_41 (Nat.le_of_ble_eq_true rfl) rfl]
      exact zt_M_rings_43 (hk27 := ih) H
set_option maxRecDepth 20000 in
theorem zt_M_rings {a b L N : Nat} {σ : zS} {τ : zT} {r : Int32 × zS} (H : zf_M_rings N σ = some r) : zx_go 5 259 0 [some (.ref 82), none, none, none, none, none, none] [] ((119, a, b), zx_pk (zK L) 119, σ, τ, zR) = some (some (.int r.1), ((119, a, b), zx_pk (zK L) 119, r.2, τ, zR)) := by
  unfold zf_M_rings at H
  rw [zs_aload_n (ls := [some (.ref 82), none, none, none, none, none, none]) zd_259_0 rfl]
  rw [zs_iconst (z := 0) zd_259_1 (by decide)]
  rw [zs_putI (n := 119) (K := zx_pk (zK L) 119) (c := 12) (k := 0) (q := 82) (x := 0) zd_259_2 rfl rfl (by decide +kernel) rfl (by decide)]
  rw [zs_aload_n (ls := [some (.ref 82), none, none, none, none, none, none]) zd_259_5 rfl]
  rw [zp_getZ (n := 119) (K := zx_pk (zK L) 119) (σ := (zx_up σ 82 0 0)) (c := 12) (k := 21) (q := 82) (v := (σ 82 21)) zd_259_6 rfl rfl rfl (by decide) (show ((zx_up σ 82 0 0) : zS) 82 21 = (σ 82 21) from ((zx_up_nj (by decide)).trans rfl))]
  by_cases c1 : ¬ (σ 82 21) = 0
  · rw [if_pos c1] at H
    rw [zp_if_ne_t (x := (σ 82 21)) (t := 15) zd_259_9 rfl c1]
    rw [zs_bipush (z := 24) zd_259_15 (by decide)]
    rw [zs_aload_n (ls := [some (.ref 82), none, none, none, none, none, none]) zd_259_17 rfl]
    rw [zp_getI (n := 119) (K := zx_pk (zK L) 119) (σ := (zx_up σ 82 0 0)) (c := 12) (k := 17) (q := 82) (v := (σ 82 17)) zd_259_18 rfl rfl rfl (by decide) (show ((zx_up σ 82 0 0) : zS) 82 17 = (σ 82 17) from ((zx_up_nj (by decide)).trans rfl))]
    rw [zp_imul (x := 24) (y := (σ 82 17)) (z := (24 * (σ 82 17))) zd_259_21 rfl]
    rw [zs_istore_n (x := (24 * (σ 82 17))) (ls' := [some (.ref 82), some (.int (24 * (σ 82 17))), none, none, none, none, none]) zd_259_22 (Nat.le_of_ble_eq_true rfl) rfl]
    rw [zs_iconst (z := 0) zd_259_23 (by decide)]
    rw [zs_istore_n (x := 0) (ls' := [some (.ref 82), some (.int (24 * (σ 82 17))), some (.int 0), none, none, none, none]) zd_259_24 (Nat.le_of_ble_eq_true rfl) rfl]
    rw [zs_iconst (z := 0) zd_259_25 (by decide)]
    rw [zs_istore_n (x := 0) (ls' := [some (.ref 82), some (.int (24 * (σ 82 17))), some (.int 0), some (.int 0), none, none, none]) zd_259_26 (Nat.le_of_ble_eq_true rfl) rfl]
    exact zt_M_rings_27  H
  · rw [if_neg c1] at H
    rw [zp_if_ne_f (x := (σ 82 21)) (t := 15) zd_259_9 rfl c1]
    rw [zs_bipush (z := (-101)) zd_259_12 (by decide)]
    have H := Option.some.inj H
    subst H
    exact zs_ireturn zd_259_14 (by decide +kernel)
