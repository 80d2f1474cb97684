/-! theorems of the functions, by program -/
set_option maxRecDepth 20000 in
theorem zt_Space_slotOfComing_4 {a b L N : Nat} : ∀ {n : Nat} {σ : zS} {τ : zT} {v1 : Int32} {v2 : Int32} {o3 : Option Value} {r : Int32}, zb_Space_slotOfComing_4 N n σ v1 v2 = some r → zx_go 2 133 4 [some (.ref 41), some (.int v1), some (.int v2), o3] [] ((119, a, b), zx_pk (zK L) 119, σ, τ, zR) = some (some (.int r), ((119, a, b), zx_pk (zK L) 119, σ, τ, zR)) := by
  intro n
  induction n with
  | zero =>
    intro _ _ _ _ _ _ H
    cases H
  | succ n ih =>
    intro σ τ v1 v2 o3 r H
    rw [zb_Space_slotOfComing_4] at H
    rw [zs_iload_n (ls := [some (.ref 41), some (.int v1), some (.int v2), o3]) zd_133_4 rfl]
    rw [zs_iconst (z := 5) zd_133_5 (by decide)]
    by_cases c1 : 5 ≤ v2
    · rw [if_pos c1] at H
      rw [zp_icmp_ge_t (x := v2) (y := 5) (t := 37) zd_133_6 rfl c1]
      rw [zs_iload_n (ls := [some (.ref 41), some (.int v1), some (.int v2), o3]) zd_133_37 rfl]
      rw [zs_sipush (z := 8191) zd_133_38 (by decide)]
      rw [zp_iand (x := v1) (y := 8191) (z := (v1 &&& 8191)) zd_133_41 rfl]
      rw [zs_istore_n (x := (v1 &&& 8191)) (ls' := [some (.ref 41), some (.int v1), some (.int (v1 &&& 8191)), o3]) zd_133_42 (Nat.le_of_ble_eq_true rfl) rfl]
      rw [zs_iconst (z := 0) zd_133_43 (by decide)]
      rw [zs_istore_n (x := 0) (ls' := [some (.ref 41), some (.int v1), some (.int (v1 &&& 8191)), some (.int 0)]) zd_133_44 (Nat.le_of_ble_eq_true rfl) rfl]
      exact zt_Space_slotOfComing_45  H
    · rw [if_neg c1] at H
      rw [zp_icmp_ge_f (x := v2) (y := 5) (t := 37) zd_133_6 rfl c1]
      rw [zs_iload_n (ls := [some (.ref 41), some (.int v1), some (.int v2), o3]) zd_133_9 rfl]
      rw [zs_aload_n (ls := [some (.ref 41), some (.int v1), some (.int v2), o3]) zd_133_10 rfl]
      rw [zs_getR (n := 119) (K := zx_pk (zK L) 119) (ρ := zR) (c := 8) (k := 1) (q := 41) (p := 35) zd_133_11 rfl rfl rfl (by decide) rfl]
      rw [zs_getR (n := 119) (K := zx_pk (zK L) 119) (ρ := zR) (c := 2) (k := 5) (q := 35) (p := 40) zd_133_14 rfl rfl rfl (by decide) rfl]
      rw [zs_iload_n (ls := [some (.ref 41), some (.int v1), some (.int v2), o3]) zd_133_17 rfl]
      by_cases c8 : 0 ≤ v2 ∧ v2 < 5
      · rw [if_pos c8] at H
        rw [zp_iaload (n := 119) (K := zx_pk (zK L) 119) (σ := σ) (q := 40) (m := 5) (i := v2) (k := v2.toNatClampNeg) (v := (σ 40 v2.toNatClampNeg)) zd_133_18 rfl (by decide) (zJ_in c8 rfl) rfl rfl]
        rw [zp_ixor (x := v1) (y := (σ 40 v2.toNatClampNeg)) (z := (v1 ^^^ (σ 40 v2.toNatClampNeg))) zd_133_19 rfl]
        rw [zs_ldc (x := (-1640531535)) zd_133_20 rfl]
        rw [zp_imul (x := (v1 ^^^ (σ 40 v2.toNatClampNeg))) (y := (-1640531535)) (z := ((v1 ^^^ (σ 40 v2.toNatClampNeg)) * (-1640531535))) zd_133_22 rfl]
        rw [zs_istore_n (x := ((v1 ^^^ (σ 40 v2.toNatClampNeg)) * (-1640531535))) (ls' := [some (.ref 41), some (.int ((v1 ^^^ (σ 40 v2.toNatClampNeg)) * (-1640531535))), some (.int v2), o3]) zd_133_23 (Nat.le_of_ble_eq_true rfl) rfl]
        rw [zs_iload_n (ls := [some (.ref 41), some (.int ((v1 ^^^ (σ 40 v2.toNatClampNeg)) * (-1640531535))), some (.int v2), o3]) zd_133_24 rfl]
        rw [zs_iload_n (ls := [some (.ref 41), some (.int ((v1 ^^^ (σ 40 v2.toNatClampNeg)) * (-1640531535))), some (.int v2), o3]) zd_133_25 rfl]
        rw [zs_bipush (z := 15) zd_133_26 (by decide)]
        rw [zp_iushr (x := ((v1 ^^^ (σ 40 v2.toNatClampNeg)) * (-1640531535))) (y := 15) (z := (zJ_ushr ((v1 ^^^ (σ 40 v2.toNatClampNeg)) * (-1640531535)) 15)) zd_133_28 rfl]
        rw [zp_ixor (x := ((v1 ^^^ (σ 40 v2.toNatClampNeg)) * (-1640531535))) (y := (zJ_ushr ((v1 ^^^ (σ 40 v2.toNatClampNeg)) * (-1640531535)) 15)) (z := (((v1 ^^^ (σ 40 v2.toNatClampNeg)) * (-1640531535)) ^^^ (zJ_ushr ((v1 ^^^ (σ 40 v2.toNatClampNeg)) * (-1640531535)) 15))) zd_133_29 rfl]
        rw [zs_istore_n (x := (((v1 ^^^ (σ 40 v2.toNatClampNeg)) * (-1640531535)) ^^^ (zJ_ushr ((v1 ^^^ (σ 40 v2.toNatClampNeg)) * (-1640531535)) 15))) (ls' := [some (.ref 41), some (.int (((v1 ^^^ (σ 40 v2.toNatClampNeg)) * (-1640531535)) ^^^ (zJ_ushr ((v1 ^^^ (σ 40 v2.toNatClampNeg)) * (-1640531535)) 15))), some (.int v2), o3]) zd_133_30 (Nat.le_of_ble_eq_true rfl) rfl]
        rw [zs_iinc (ls := [some (.ref 41), some (.int (((v1 ^^^ (σ 40 v2.toNatClampNeg)) * (-1640531535)) ^^^ (zJ_ushr ((v1 ^^^ (σ 40 v2.toNatClampNeg)) * (-1640531535)) 15))), some (.int v2), o3]) (x := v2) (z := (v2 + 1)) (ls' := [some (.ref 41), some (.int (((v1 ^^^ (σ 40 v2.toNatClampNeg)) * (-1640531535)) ^^^ (zJ_ushr ((v1 ^^^ (σ 40 v2.toNatClampNeg)) * (-1640531535)) 15))), some (.int (v2 + 1)), o3]) zd_133_31 rfl rfl rfl]
        rw [zs_goto (t := 4) zd_133_34 rfl]
        exact ih H
      · rw [if_neg c8] at H
        cases H
set_option maxRecDepth 20000 in
theorem zt_Space_slotOfComing {a b L N : Nat} {σ : zS} {τ : zT} {r : Int32} (H : zf_Space_slotOfComing N σ = some r) : zx_go 2 133 0 [some (.ref 41), none, none, none] [] ((119, a, b), zx_pk (zK L) 119, σ, τ, zR) = some (some (.int r), ((119, a, b), zx_pk (zK L) 119, σ, τ, zR)) := by
  unfold zf_Space_slotOfComing at H
  rw [zs_iconst (z := 0) zd_133_0 (by decide)]
  rw [zs_istore_n (x := 0) (ls' := [some (.ref 41), some (.int 0), none, none]) zd_133_1 (Nat.le_of_ble_eq_true rfl) rfl]
  rw [zs_iconst (z := 0) zd_133_2 (by decide)]
  rw [zs_istore_n (x := 0) (ls' := [some (.ref 41), some (.int 0), some (.int 0), none]) zd_133_3 (Nat.le_of_ble_eq_true rfl) rfl]
  exact zt_Space_slotOfComing_4  H
set_option maxRecDepth 20000 in
theorem zt_Space_note {a b L N : Nat} {σ : zS} {τ : zT} {x1 : Int32} {r : Int32 × zS} (H : zf_Space_note N σ x1 = some r) : zx_go 3 132 0 [some (.ref 41), some (.int x1), none] [] ((119, a, b), zx_pk (zK L) 119, σ, τ, zR) = some (some (.int r.1), ((119, a, b), zx_pk (zK L) 119, r.2, τ, zR)) := by
  unfold zf_Space_note at H
  rw [zs_aload_n (ls := [some (.ref 41), some (.int x1), none]) zd_132_0 rfl]
  obtain ⟨r1, hr1, H⟩ := Option.bind_eq_some_iff.mp H
  rw [zp_callVi (x := r1) (st := [.ref 41]) (as := [.ref 41]) (rest := []) (e := 2) zd_132_1 rfl (by decide +kernel) (by decide) rfl rfl (Nat.le_of_ble_eq_true rfl) (zx_rcb_ok rfl (show 41 < 119 by decide)) (Nat.le_of_ble_eq_true rfl) rfl (by decide) (zt_Space_slotOfComing hr1)]
  rw [zs_istore_n (x := r1) (ls' := [some (.ref 41), some (.int x1), some (.int r1)]) zd_132_4 (Nat.le_of_ble_eq_true rfl) rfl]
  rw [zs_aload_n (ls := [some (.ref 41), some (.int x1), some (.int r1)]) zd_132_5 rfl]
  rw [zs_getR (n := 119) (K := zx_pk (zK L) 119) (ρ := zR) (c := 8) (k := 5) (q := 41) (p := 45) zd_132_6 rfl rfl rfl (by decide) rfl]
  rw [zs_iload_n (ls := [some (.ref 41), some (.int x1), some (.int r1)]) zd_132_9 rfl]
  by_cases c2 : 0 ≤ r1 ∧ r1 < 8192
  · rw [if_pos c2] at H
    rw [zp_iaload (n := 119) (K := zx_pk (zK L) 119) (σ := σ) (q := 45) (m := 8192) (i := r1) (k := r1.toNatClampNeg) (v := (σ 45 r1.toNatClampNeg)) zd_132_10 rfl (by decide) (zJ_in c2 rfl) rfl rfl]
    by_cases c3 : (σ 45 r1.toNatClampNeg) = 0
    · rw [if_pos c3] at H
      rw [zp_if_eq_t (x := (σ 45 r1.toNatClampNeg)) (t := 16) zd_132_11 rfl c3]
      rw [zs_aload_n (ls := [some (.ref 41), some (.int x1), some (.int r1)]) zd_132_16 rfl]
      rw [zp_getI (n := 119) (K := zx_pk (zK L) 119) (σ := σ) (c := 8) (k := 6) (q := 41) (v := (σ 41 6)) zd_132_17 rfl rfl rfl (by decide) rfl]
      by_cases c4 : (σ 41 6) < 0
      · rw [if_pos c4] at H
        rw [zp_if_lt_t (x := (σ 41 6)) (t := 33) zd_132_20 rfl c4]
        rw [zs_iconst (z := 0) zd_132_33 (by decide)]
        have H := Option.some.inj H
        subst H
        exact zs_ireturn zd_132_34 (by decide +kernel)
      · rw [if_neg c4] at H
        rw [zp_if_lt_f (x := (σ 41 6)) (t := 33) zd_132_20 rfl c4]
        rw [zs_aload_n (ls := [some (.ref 41), some (.int x1), some (.int r1)]) zd_132_23 rfl]
        rw [zp_getI (n := 119) (K := zx_pk (zK L) 119) (σ := σ) (c := 8) (k := 6) (q := 41) (v := (σ 41 6)) zd_132_24 rfl rfl rfl (by decide) rfl]
        rw [zs_sipush (z := 4000) zd_132_27 (by decide)]
        by_cases c5 : (σ 41 6) < 4000
        · rw [if_pos c5] at H
          rw [zp_icmp_lt_t (x := (σ 41 6)) (y := 4000) (t := 35) zd_132_30 rfl c5]
          rw [zs_aload_n (ls := [some (.ref 41), some (.int x1), some (.int r1)]) zd_132_35 rfl]
          rw [zs_getR (n := 119) (K := zx_pk (zK L) 119) (ρ := zR) (c := 8) (k := 1) (q := 41) (p := 35) zd_132_36 rfl rfl rfl (by decide) rfl]
          rw [zs_getR (n := 119) (K := zx_pk (zK L) 119) (ρ := zR) (c := 2) (k := 5) (q := 35) (p := 40) zd_132_39 rfl rfl rfl (by decide) rfl]
          rw [zs_iconst (z := 0) zd_132_42 (by decide)]
          rw [zs_aload_n (ls := [some (.ref 41), some (.int x1), some (.int r1)]) zd_132_43 rfl]
          rw [zs_getR (n := 119) (K := zx_pk (zK L) 119) (ρ := zR) (c := 8) (k := 2) (q := 41) (p := 42) zd_132_44 rfl rfl rfl (by decide) rfl]
          rw [zs_aload_n (ls := [some (.ref 41), some (.int x1), some (.int r1)]) zd_132_47 rfl]
          rw [zp_getI (n := 119) (K := zx_pk (zK L) 119) (σ := σ) (c := 8) (k := 6) (q := 41) (v := (σ 41 6)) zd_132_48 rfl rfl rfl (by decide) rfl]
          rw [zs_iconst (z := 5) zd_132_51 (by decide)]
          rw [zp_imul (x := (σ 41 6)) (y := 5) (z := ((σ 41 6) * 5)) zd_132_52 rfl]
          rw [zs_iconst (z := 5) zd_132_53 (by decide)]
          by_cases c6 : 0 ≤ ((σ 41 6) * 5) ∧ ((σ 41 6) * 5) ≤ 19995
          · rw [if_pos c6] at H
            rw [zp_copy (r := []) (n := 119) (K := zx_pk (zK L) 119) (σ := σ) (a := 40) (b := 42) (n0 := 5) (n1 := 20000) (sp := 0) (dp := ((σ 41 6) * 5)) (m := 5) zd_132_54 rfl (Nat.le_of_ble_eq_true rfl) rfl rfl ⟨by decide, by decide⟩ (zJ_cpi (c0 := 0) (c1 := 19995) ⟨by decide, by decide, c6.1, c6.2⟩ (by decide) (by decide) (by decide))]
            rw [zs_aload_n (ls := [some (.ref 41), some (.int x1), some (.int r1)]) zd_132_57 rfl]
            rw [zs_getR (n := 119) (K := zx_pk (zK L) 119) (ρ := zR) (c := 8) (k := 3) (q := 41) (p := 43) zd_132_58 rfl rfl rfl (by decide) rfl]
            rw [zs_aload_n (ls := [some (.ref 41), some (.int x1), some (.int r1)]) zd_132_61 rfl]
            rw [zp_getI (n := 119) (K := zx_pk (zK L) 119) (σ := (zJ_copy σ 40 42 0 ((σ 41 6) * 5) 5)) (c := 8) (k := 6) (q := 41) (v := ((zJ_copy σ 40 42 0 ((σ 41 6) * 5) 5) 41 6)) zd_132_62 rfl rfl rfl (by decide) rfl]
            rw [zs_iload_n (ls := [some (.ref 41), some (.int x1), some (.int r1)]) zd_132_65 rfl]
            by_cases c7 : 0 ≤ ((zJ_copy σ 40 42 0 ((σ 41 6) * 5) 5) 41 6) ∧ ((zJ_copy σ 40 42 0 ((σ 41 6) * 5) 5) 41 6) < 4000
            · rw [if_pos c7] at H
              rw [zp_iastore (n := 119) (K := zx_pk (zK L) 119) (q := 43) (m := 4000) (i := ((zJ_copy σ 40 42 0 ((σ 41 6) * 5) 5) 41 6)) (k := ((zJ_copy σ 40 42 0 ((σ 41 6) * 5) 5) 41 6).toNatClampNeg) (x := x1) (z := x1) zd_132_66 rfl ⟨by decide, by decide⟩ (zJ_in c7 rfl) rfl rfl]
              rw [zs_aload_n (ls := [some (.ref 41), some (.int x1), some (.int r1)]) zd_132_67 rfl]
              rw [zs_dup (a := .ref 41) zd_132_68 rfl]
              rw [zp_getI (n := 119) (K := zx_pk (zK L) 119) (σ := (zx_up (zJ_copy σ 40 42 0 ((σ 41 6) * 5) 5) 43 ((zJ_copy σ 40 42 0 ((σ 41 6) * 5) 5) 41 6).toNatClampNeg x1)) (c := 8) (k := 6) (q := 41) (v := ((zJ_copy σ 40 42 0 ((σ 41 6) * 5) 5) 41 6)) zd_132_69 rfl rfl rfl (by decide) (show ((zx_up (zJ_copy σ 40 42 0 ((σ 41 6) * 5) 5) 43 ((zJ_copy σ 40 42 0 ((σ 41 6) * 5) 5) 41 6).toNatClampNeg x1) : zS) 41 6 = ((zJ_copy σ 40 42 0 ((σ 41 6) * 5) 5) 41 6) from ((zx_up_ne (by decide)).trans rfl))]
              rw [zs_iconst (z := 1) zd_132_72 (by decide)]
              rw [zp_iadd (x := ((zJ_copy σ 40 42 0 ((σ 41 6) * 5) 5) 41 6)) (y := 1) (z := (((zJ_copy σ 40 42 0 ((σ 41 6) * 5) 5) 41 6) + 1)) zd_132_73 rfl]
              rw [zs_putI (n := 119) (K := zx_pk (zK L) 119) (c := 8) (k := 6) (q := 41) (x := (((zJ_copy σ 40 42 0 ((σ 41 6) * 5) 5) 41 6) + 1)) zd_132_74 rfl rfl (by decide +kernel) rfl (by decide)]
              rw [zs_aload_n (ls := [some (.ref 41), some (.int x1), some (.int r1)]) zd_132_77 rfl]
              rw [zs_getR (n := 119) (K := zx_pk (zK L) 119) (ρ := zR) (c := 8) (k := 5) (q := 41) (p := 45) zd_132_78 rfl rfl rfl (by decide) rfl]
              rw [zs_iload_n (ls := [some (.ref 41), some (.int x1), some (.int r1)]) zd_132_81 rfl]
              rw [zs_aload_n (ls := [some (.ref 41), some (.int x1), some (.int r1)]) zd_132_82 rfl]
              rw [zp_getI (n := 119) (K := zx_pk (zK L) 119) (σ := (zx_up (zx_up (zJ_copy σ 40 42 0 ((σ 41 6) * 5) 5) 43 ((zJ_copy σ 40 42 0 ((σ 41 6) * 5) 5) 41 6).toNatClampNeg x1) 41 6 (((zJ_copy σ 40 42 0 ((σ 41 6) * 5) 5) 41 6) + 1))) (c := 8) (k := 6) (q := 41) (v := (((zJ_copy σ 40 42 0 ((σ 41 6) * 5) 5) 41 6) + 1)) zd_132_83 rfl rfl rfl (by decide) (show ((zx_up (zx_up (zJ_copy σ 40 42 0 ((σ 41 6) * 5) 5) 43 ((zJ_copy σ 40 42 0 ((σ 41 6) * 5) 5) 41 6).toNatClampNeg x1) 41 6 (((zJ_copy σ 40 42 0 ((σ 41 6) * 5) 5) 41 6) + 1)) : zS) 41 6 = (((zJ_copy σ 40 42 0 ((σ 41 6) * 5) 5) 41 6) + 1) from zx_up_at)]
              by_cases c8 : 0 ≤ r1 ∧ r1 < 8192
              · rw [if_pos c8] at H
                rw [zp_iastore (n := 119) (K := zx_pk (zK L) 119) (q := 45) (m := 8192) (i := r1) (k := r1.toNatClampNeg) (x := (((zJ_copy σ 40 42 0 ((σ 41 6) * 5) 5) 41 6) + 1)) (z := (((zJ_copy σ 40 42 0 ((σ 41 6) * 5) 5) 41 6) + 1)) zd_132_86 rfl ⟨by decide, by decide⟩ (zJ_in c8 rfl) rfl rfl]
                rw [zs_iconst (z := 1) zd_132_87 (by decide)]
                have H := Option.some.inj H
                subst H
                exact zs_ireturn zd_132_88 (by decide +kernel)
              · rw [if_neg c8] at H
                cases H
            · rw [if_neg c7] at H
              cases H
          · rw [if_neg c6] at H
            cases H
        · rw [if_neg c5] at H
          rw [zp_icmp_lt_f (x := (σ 41 6)) (y := 4000) (t := 35) zd_132_30 rfl c5]
          rw [zs_iconst (z := 0) zd_132_33 (by decide)]
          have H := Option.some.inj H
          subst H
          exact zs_ireturn zd_132_34 (by decide +kernel)
    · rw [if_neg c3] at H
      rw [zp_if_eq_f (x := (σ 45 r1.toNatClampNeg)) (t := 16) zd_132_11 rfl c3]
      rw [zs_iconst (z := 1) zd_132_14 (by decide)]
      have H := Option.some.inj H
      subst H
      exact zs_ireturn zd_132_15 (by decide +kernel)
  · rw [if_neg c2] at H
    cases H
set_option maxRecDepth 20000 in
theorem zt_Arrays_fill_c4_5 {a b L N : Nat} : ∀ {n : Nat} {σ : zS} {τ : zT} {v1 : Int32} {v2 : Int32} {v3 : Int32} {r : zS}, zb_Arrays_fill_c4_5 N n σ v1 v2 v3 = some r → zx_go 0 22 5 [some (.ref 38), some (.int v1), some (.int v2), some (.int v3)] [] ((119, a, b), zx_pk (zK L) 119, σ, τ, zR) = some (none, ((119, a, b), zx_pk (zK L) 119, r, τ, zR)) := by
  intro n
  induction n with
  | zero =>
    intro _ _ _ _ _ _ H
    cases H
  | succ n ih =>
    intro σ τ v1 v2 v3 r H
    rw [zb_Arrays_fill_c4_5] at H
    rw [zs_iload_n (ls := [some (.ref 38), some (.int v1), some (.int v2), some (.int v3)]) zd_22_5 rfl]
    rw [zs_iload_n (ls := [some (.ref 38), some (.int v1), some (.int v2), some (.int v3)]) zd_22_6 rfl]
    by_cases c1 : v3 ≤ v2
    · rw [if_pos c1] at H
      rw [zp_icmp_ge_t (x := v2) (y := v3) (t := 20) zd_22_7 rfl c1]
      have H := Option.some.inj H
      subst H
      exact zs_return zd_22_20 (by decide +kernel)
    · rw [if_neg c1] at H
      rw [zp_icmp_ge_f (x := v2) (y := v3) (t := 20) zd_22_7 rfl c1]
      rw [zs_aload_n (ls := [some (.ref 38), some (.int v1), some (.int v2), some (.int v3)]) zd_22_10 rfl]
      rw [zs_iload_n (ls := [some (.ref 38), some (.int v1), some (.int v2), some (.int v3)]) zd_22_11 rfl]
      rw [zs_iload_n (ls := [some (.ref 38), some (.int v1), some (.int v2), some (.int v3)]) zd_22_12 rfl]
      by_cases c2 : 0 ≤ v2 ∧ v2 < 4
      · rw [if_pos c2] at H
        rw [zp_iastore (n := 119) (K := zx_pk (zK L) 119) (q := 38) (m := 4) (i := v2) (k := v2.toNatClampNeg) (x := v1) (z := v1) zd_22_13 rfl ⟨by decide, by decide⟩ (zJ_in c2 rfl) rfl rfl]
        rw [zs_iinc (ls := [some (.ref 38), some (.int v1), some (.int v2), some (.int v3)]) (x := v2) (z := (v2 + 1)) (ls' := [some (.ref 38), some (.int v1), some (.int (v2 + 1)), some (.int v3)]) zd_22_14 rfl rfl rfl]
        rw [zs_goto (t := 5) zd_22_17 rfl]
        exact ih H
      · rw [if_neg c2] at H
        cases H
set_option maxRecDepth 20000 in
theorem zt_Arrays_fill_c4 {a b L N : Nat} {σ : zS} {τ : zT} {x2 : Int32} {r : zS} (H : zf_Arrays_fill_c4 N σ x2 = some r) : zx_go 0 22 0 [some (.ref 38), some (.int x2), none, none] [] ((119, a, b), zx_pk (zK L) 119, σ, τ, zR) = some (none, ((119, a, b), zx_pk (zK L) 119, r, τ, zR)) := by
  unfold zf_Arrays_fill_c4 at H
  rw [zs_iconst (z := 0) zd_22_0 (by decide)]
  rw [zs_istore_n (x := 0) (ls' := [some (.ref 38), some (.int x2), some (.int 0), none]) zd_22_1 (Nat.le_of_ble_eq_true rfl) rfl]
  rw [zs_aload_n (ls := [some (.ref 38), some (.int x2), some (.int 0), none]) zd_22_2 rfl]
  rw [zs_arraylength (n := 119) (K := zx_pk (zK L) 119) (q := 38) (m := 4) (z := 4) zd_22_3 rfl (by decide) (by decide)]
  rw [zs_istore_n (x := 4) (ls' := [some (.ref 38), some (.int x2), some (.int 0), some (.int 4)]) zd_22_4 (Nat.le_of_ble_eq_true rfl) rfl]
  exact zt_Arrays_fill_c4_5  H
set_option maxRecDepth 20000 in
theorem zt_Machine_slotOf {a b L : Nat} {σ : zS} {τ : zT} {x1 : Int32} {r : Int32} (H : zf_Machine_slotOf σ x1 = some r) : zx_go 0 140 0 [some (.ref 35), some (.int x1)] [] ((119, a, b), zx_pk (zK L) 119, σ, τ, zR) = some (some (.int r), ((119, a, b), zx_pk (zK L) 119, σ, τ, zR)) := by
  unfold zf_Machine_slotOf at H
  rw [zs_iload_n (ls := [some (.ref 35), some (.int x1)]) zd_140_0 rfl]
  by_cases c1 : x1 < 0
  · rw [if_pos c1] at H
    rw [zp_if_lt_t (x := x1) (t := 18) zd_140_1 rfl c1]
    rw [zs_bipush (z := 96) zd_140_18 (by decide)]
    have H := Option.some.inj H
    subst H
    exact zs_ireturn zd_140_20 (by decide +kernel)
  · rw [if_neg c1] at H
    rw [zp_if_lt_f (x := x1) (t := 18) zd_140_1 rfl c1]
    rw [zs_iload_n (ls := [some (.ref 35), some (.int x1)]) zd_140_4 rfl]
    rw [zs_iconst (z := 4) zd_140_5 (by decide)]
    by_cases c2 : 4 ≤ x1
    · rw [if_pos c2] at H
      rw [zp_icmp_ge_t (x := x1) (y := 4) (t := 18) zd_140_6 rfl c2]
      rw [zs_bipush (z := 96) zd_140_18 (by decide)]
      have H := Option.some.inj H
      subst H
      exact zs_ireturn zd_140_20 (by decide +kernel)
    · rw [if_neg c2] at H
      rw [zp_icmp_ge_f (x := x1) (y := 4) (t := 18) zd_140_6 rfl c2]
      rw [zs_aload_n (ls := [some (.ref 35), some (.int x1)]) zd_140_9 rfl]
      rw [zs_getR (n := 119) (K := zx_pk (zK L) 119) (ρ := zR) (c := 2) (k := 2) (q := 35) (p := 37) zd_140_10 rfl rfl rfl (by decide) rfl]
      rw [zs_iload_n (ls := [some (.ref 35), some (.int x1)]) zd_140_13 rfl]
      by_cases c3 : 0 ≤ x1 ∧ x1 < 4
      · rw [if_pos c3] at H
        rw [zp_iaload (n := 119) (K := zx_pk (zK L) 119) (σ := σ) (q := 37) (m := 4) (i := x1) (k := x1.toNatClampNeg) (v := (σ 37 x1.toNatClampNeg)) zd_140_14 rfl (by decide) (zJ_in c3 rfl) rfl rfl]
        rw [zs_goto (t := 20) zd_140_15 rfl]
        have H := Option.some.inj H
        subst H
        exact zs_ireturn zd_140_20 rfl
      · rw [if_neg c3] at H
        cases H
set_option maxRecDepth 20000 in
theorem zt_Machine_howOf {a b L : Nat} {σ : zS} {τ : zT} {x1 : Int32} {r : Int32} (H : zf_Machine_howOf σ x1 = some r) : zx_go 0 141 0 [some (.ref 35), some (.int x1)] [] ((119, a, b), zx_pk (zK L) 119, σ, τ, zR) = some (some (.int r), ((119, a, b), zx_pk (zK L) 119, σ, τ, zR)) := by
  unfold zf_Machine_howOf at H
  rw [zs_iload_n (ls := [some (.ref 35), some (.int x1)]) zd_141_0 rfl]
  by_cases c1 : x1 < 0
  · rw [if_pos c1] at H
    rw [zp_if_lt_t (x := x1) (t := 18) zd_141_1 rfl c1]
    rw [zs_iconst (z := (-1)) zd_141_18 (by decide)]
    have H := Option.some.inj H
    subst H
    exact zs_ireturn zd_141_19 (by decide +kernel)
  · rw [if_neg c1] at H
    rw [zp_if_lt_f (x := x1) (t := 18) zd_141_1 rfl c1]
    rw [zs_iload_n (ls := [some (.ref 35), some (.int x1)]) zd_141_4 rfl]
    rw [zs_iconst (z := 4) zd_141_5 (by decide)]
    by_cases c2 : 4 ≤ x1
    · rw [if_pos c2] at H
      rw [zp_icmp_ge_t (x := x1) (y := 4) (t := 18) zd_141_6 rfl c2]
      rw [zs_iconst (z := (-1)) zd_141_18 (by decide)]
      have H := Option.some.inj H
      subst H
      exact zs_ireturn zd_141_19 (by decide +kernel)
    · rw [if_neg c2] at H
      rw [zp_icmp_ge_f (x := x1) (y := 4) (t := 18) zd_141_6 rfl c2]
      rw [zs_aload_n (ls := [some (.ref 35), some (.int x1)]) zd_141_9 rfl]
      rw [zs_getR (n := 119) (K := zx_pk (zK L) 119) (ρ := zR) (c := 2) (k := 1) (q := 35) (p := 36) zd_141_10 rfl rfl rfl (by decide) rfl]
      rw [zs_iload_n (ls := [some (.ref 35), some (.int x1)]) zd_141_13 rfl]
      by_cases c3 : 0 ≤ x1 ∧ x1 < 4
      · rw [if_pos c3] at H
        rw [zp_iaload (n := 119) (K := zx_pk (zK L) 119) (σ := σ) (q := 36) (m := 4) (i := x1) (k := x1.toNatClampNeg) (v := (σ 36 x1.toNatClampNeg)) zd_141_14 rfl (by decide) (zJ_in c3 rfl) rfl rfl]
        rw [zs_goto (t := 19) zd_141_15 rfl]
        have H := Option.some.inj H
        subst H
        exact zs_ireturn zd_141_19 rfl
      · rw [if_neg c3] at H
        cases H
set_option maxRecDepth 20000 in
theorem zt_Machine_locksOf {a b L : Nat} {σ : zS} {τ : zT} {x1 : Int32} {r : Int32} (H : zf_Machine_locksOf σ x1 = some r) : zx_go 1 139 0 [some (.ref 35), some (.int x1), none] [] ((119, a, b), zx_pk (zK L) 119, σ, τ, zR) = some (some (.int r), ((119, a, b), zx_pk (zK L) 119, σ, τ, zR)) := by
  unfold zf_Machine_locksOf at H
  rw [zs_aload_n (ls := [some (.ref 35), some (.int x1), none]) zd_139_0 rfl]
  rw [zs_iload_n (ls := [some (.ref 35), some (.int x1), none]) zd_139_1 rfl]
  obtain ⟨r1, hr1, H⟩ := Option.bind_eq_some_iff.mp H
  rw [zp_callVi (x := r1) (st := [.int x1, .ref 35]) (as := [.ref 35, .int x1]) (rest := []) (e := 0) zd_139_2 rfl (by decide +kernel) (by decide) rfl rfl (Nat.le_of_ble_eq_true rfl) (zx_rcb_ok rfl (show 35 < 119 by decide)) (Nat.le_of_ble_eq_true rfl) rfl (by decide) (zt_Machine_slotOf hr1)]
  rw [zs_istore_n (x := r1) (ls' := [some (.ref 35), some (.int x1), some (.int r1)]) zd_139_5 (Nat.le_of_ble_eq_true rfl) rfl]
  rw [zs_aload_n (ls := [some (.ref 35), some (.int x1), some (.int r1)]) zd_139_6 rfl]
  rw [zs_iload_n (ls := [some (.ref 35), some (.int x1), some (.int r1)]) zd_139_7 rfl]
  obtain ⟨r2, hr2, H⟩ := Option.bind_eq_some_iff.mp H
  rw [zp_callVi (x := r2) (st := [.int x1, .ref 35]) (as := [.ref 35, .int x1]) (rest := []) (e := 0) zd_139_8 rfl (by decide +kernel) (by decide) rfl rfl (Nat.le_of_ble_eq_true rfl) (zx_rcb_ok rfl (show 35 < 119 by decide)) (Nat.le_of_ble_eq_true rfl) rfl (by decide) (zt_Machine_howOf hr2)]
  by_cases c3 : r2 = 1
  · rw [if_pos c3] at H
    rw [zs_table (x := r2) (off := 25) (t := 36) zd_139_11 (by rw [c3]; decide) rfl]
    rw [zs_aload_n (ls := [some (.ref 35), some (.int x1), some (.int r1)]) zd_139_36 rfl]
    rw [zs_getR (n := 119) (K := zx_pk (zK L) 119) (ρ := zR) (c := 2) (k := 0) (q := 35) (p := 4) zd_139_37 rfl rfl rfl (by decide) rfl]
    rw [zs_getR (n := 119) (K := zx_pk (zK L) 119) (ρ := zR) (c := 6) (k := 13) (q := 4) (p := 11) zd_139_40 rfl rfl rfl (by decide) rfl]
    rw [zs_iload_n (ls := [some (.ref 35), some (.int x1), some (.int r1)]) zd_139_43 rfl]
    by_cases c10 : 0 ≤ r1 ∧ r1 < 97
    · rw [if_pos c10] at H
      rw [zp_iaload (n := 119) (K := zx_pk (zK L) 119) (σ := σ) (q := 11) (m := 97) (i := r1) (k := r1.toNatClampNeg) (v := (σ 11 r1.toNatClampNeg)) zd_139_44 rfl (by decide) (zJ_in c10 rfl) rfl rfl]
      have H := Option.some.inj H
      subst H
      exact zs_ireturn zd_139_45 rfl
    · rw [if_neg c10] at H
      cases H
  · rw [if_neg c3] at H
    by_cases c4 : r2 = 2
    · rw [if_pos c4] at H
      rw [zs_table (x := r2) (off := 35) (t := 46) zd_139_11 (by rw [c4]; decide) rfl]
      rw [zs_aload_n (ls := [some (.ref 35), some (.int x1), some (.int r1)]) zd_139_46 rfl]
      rw [zs_getR (n := 119) (K := zx_pk (zK L) 119) (ρ := zR) (c := 2) (k := 0) (q := 35) (p := 4) zd_139_47 rfl rfl rfl (by decide) rfl]
      rw [zs_getR (n := 119) (K := zx_pk (zK L) 119) (ρ := zR) (c := 6) (k := 13) (q := 4) (p := 11) zd_139_50 rfl rfl rfl (by decide) rfl]
      rw [zs_iload_n (ls := [some (.ref 35), some (.int x1), some (.int r1)]) zd_139_53 rfl]
      by_cases c8 : 0 ≤ r1 ∧ r1 < 97
      · rw [if_pos c8] at H
        rw [zp_iaload (n := 119) (K := zx_pk (zK L) 119) (σ := σ) (q := 11) (m := 97) (i := r1) (k := r1.toNatClampNeg) (v := (σ 11 r1.toNatClampNeg)) zd_139_54 rfl (by decide) (zJ_in c8 rfl) rfl rfl]
        rw [zs_iconst (z := 1) zd_139_55 (by decide)]
        rw [zs_aload_n (ls := [some (.ref 35), some (.int x1), some (.int r1)]) zd_139_56 rfl]
        rw [zs_getR (n := 119) (K := zx_pk (zK L) 119) (ρ := zR) (c := 2) (k := 0) (q := 35) (p := 4) zd_139_57 rfl rfl rfl (by decide) rfl]
        rw [zs_getR (n := 119) (K := zx_pk (zK L) 119) (ρ := zR) (c := 6) (k := 10) (q := 4) (p := 8) zd_139_60 rfl rfl rfl (by decide) rfl]
        rw [zs_iload_n (ls := [some (.ref 35), some (.int x1), some (.int r1)]) zd_139_63 rfl]
        by_cases c9 : 0 ≤ r1 ∧ r1 < 97
        · rw [if_pos c9] at H
          rw [zp_iaload (n := 119) (K := zx_pk (zK L) 119) (σ := σ) (q := 8) (m := 97) (i := r1) (k := r1.toNatClampNeg) (v := (σ 8 r1.toNatClampNeg)) zd_139_64 rfl (by decide) (zJ_in c9 rfl) rfl rfl]
          rw [zp_ishl (x := 1) (y := (σ 8 r1.toNatClampNeg)) (z := (zJ_shl 1 (σ 8 r1.toNatClampNeg))) zd_139_65 rfl]
          rw [zs_iconst (z := (-1)) zd_139_66 (by decide)]
          rw [zp_ixor (x := (zJ_shl 1 (σ 8 r1.toNatClampNeg))) (y := (-1)) (z := ((zJ_shl 1 (σ 8 r1.toNatClampNeg)) ^^^ (-1))) zd_139_67 rfl]
          rw [zp_iand (x := (σ 11 r1.toNatClampNeg)) (y := ((zJ_shl 1 (σ 8 r1.toNatClampNeg)) ^^^ (-1))) (z := ((σ 11 r1.toNatClampNeg) &&& ((zJ_shl 1 (σ 8 r1.toNatClampNeg)) ^^^ (-1)))) zd_139_68 rfl]
          have H := Option.some.inj H
          subst H
          exact zs_ireturn zd_139_69 rfl
        · rw [if_neg c9] at H
          cases H
      · rw [if_neg c8] at H
        cases H
    · rw [if_neg c4] at H
      by_cases c5 : r2 = 3
      · rw [if_pos c5] at H
        rw [zs_table (x := r2) (off := 35) (t := 46) zd_139_11 (by rw [c5]; decide) rfl]
        rw [zs_aload_n (ls := [some (.ref 35), some (.int x1), some (.int r1)]) zd_139_46 rfl]
        rw [zs_getR (n := 119) (K := zx_pk (zK L) 119) (ρ := zR) (c := 2) (k := 0) (q := 35) (p := 4) zd_139_47 rfl rfl rfl (by decide) rfl]
        rw [zs_getR (n := 119) (K := zx_pk (zK L) 119) (ρ := zR) (c := 6) (k := 13) (q := 4) (p := 11) zd_139_50 rfl rfl rfl (by decide) rfl]
        rw [zs_iload_n (ls := [some (.ref 35), some (.int x1), some (.int r1)]) zd_139_53 rfl]
        by_cases c6 : 0 ≤ r1 ∧ r1 < 97
        · rw [if_pos c6] at H
          rw [zp_iaload (n := 119) (K := zx_pk (zK L) 119) (σ := σ) (q := 11) (m := 97) (i := r1) (k := r1.toNatClampNeg) (v := (σ 11 r1.toNatClampNeg)) zd_139_54 rfl (by decide) (zJ_in c6 rfl) rfl rfl]
          rw [zs_iconst (z := 1) zd_139_55 (by decide)]
          rw [zs_aload_n (ls := [some (.ref 35), some (.int x1), some (.int r1)]) zd_139_56 rfl]
          rw [zs_getR (n := 119) (K := zx_pk (zK L) 119) (ρ := zR) (c := 2) (k := 0) (q := 35) (p := 4) zd_139_57 rfl rfl rfl (by decide) rfl]
          rw [zs_getR (n := 119) (K := zx_pk (zK L) 119) (ρ := zR) (c := 6) (k := 10) (q := 4) (p := 8) zd_139_60 rfl rfl rfl (by decide) rfl]
          rw [zs_iload_n (ls := [some (.ref 35), some (.int x1), some (.int r1)]) zd_139_63 rfl]
          by_cases c7 : 0 ≤ r1 ∧ r1 < 97
          · rw [if_pos c7] at H
            rw [zp_iaload (n := 119) (K := zx_pk (zK L) 119) (σ := σ) (q := 8) (m := 97) (i := r1) (k := r1.toNatClampNeg) (v := (σ 8 r1.toNatClampNeg)) zd_139_64 rfl (by decide) (zJ_in c7 rfl) rfl rfl]
            rw [zp_ishl (x := 1) (y := (σ 8 r1.toNatClampNeg)) (z := (zJ_shl 1 (σ 8 r1.toNatClampNeg))) zd_139_65 rfl]
            rw [zs_iconst (z := (-1)) zd_139_66 (by decide)]
            rw [zp_ixor (x := (zJ_shl 1 (σ 8 r1.toNatClampNeg))) (y := (-1)) (z := ((zJ_shl 1 (σ 8 r1.toNatClampNeg)) ^^^ (-1))) zd_139_67 rfl]
            rw [zp_iand (x := (σ 11 r1.toNatClampNeg)) (y := ((zJ_shl 1 (σ 8 r1.toNatClampNeg)) ^^^ (-1))) (z := ((σ 11 r1.toNatClampNeg) &&& ((zJ_shl 1 (σ 8 r1.toNatClampNeg)) ^^^ (-1)))) zd_139_68 rfl]
            have H := Option.some.inj H
            subst H
            exact zs_ireturn zd_139_69 rfl
          · rw [if_neg c7] at H
            cases H
        · rw [if_neg c6] at H
          cases H
      · rw [if_neg c5] at H
        rw [zs_table (x := r2) (off := 59) (t := 70) zd_139_11 (if_pos (by have e : ∀ z : Int32, ¬ r2 = z → ¬ (r2 : Int32).toInt = z.toInt := fun z h q => h (Int32.toInt_inj.mp q); have q0 := e 1 c3; have q1 := e 2 c4; have q2 := e 3 c5; simp only [show (1 : Int32).toInt = 1 from rfl, show (2 : Int32).toInt = 2 from rfl, show (3 : Int32).toInt = 3 from rfl] at q0 q1 q2; omega)) rfl]
        rw [zs_iconst (z := 0) zd_139_70 (by decide)]
        have H := Option.some.inj H
        subst H
        exact zs_ireturn zd_139_71 (by decide +kernel)
set_option maxRecDepth 20000 in
theorem zt_Machine_load_130 {a b L N : Nat} {k34 : zS → Int32 → Option (zS)} (hk34 : ∀ {σ : zS} {τ : zT} {v3 : Int32} {o1 : Option Value} {o2 : Option Value} {o4 : Option Value} {o5 : Option Value} {o6 : Option Value} {r : zS}, k34 σ v3 = some r → zx_go 2 138 34 [some (.ref 35), o1, o2, some (.int v3), o4, o5, o6] [] ((119, a, b), zx_pk (zK L) 119, σ, τ, zR) = some (none, ((119, a, b), zx_pk (zK L) 119, r, τ, zR))) {σ : zS} {τ : zT} {v3 : Int32} {o1 : Option Value} {o2 : Option Value} {o4 : Option Value} {o5 : Option Value} {o6 : Option Value} {r : zS} (H : zb_Machine_load_130 k34 N σ v3 = some r) : zx_go 2 138 130 [some (.ref 35), o1, o2, some (.int v3), o4, o5, o6] [] ((119, a, b), zx_pk (zK L) 119, σ, τ, zR) = some (none, ((119, a, b), zx_pk (zK L) 119, r, τ, zR)) := by
  unfold zb_Machine_load_130 at H
  rw [zs_iinc (ls := [some (.ref 35), o1, o2, some (.int v3), o4, o5, o6]) (x := v3) (z := (v3 + 1)) (ls' := [some (.ref 35), o1, (zJ_cl o2), some (.int (v3 + 1)), o4, o5, o6]) zd_138_130 rfl rfl (zJ_s1 (k := 2) (o := o2) rfl)]
  rw [zs_goto (t := 34) zd_138_133 rfl]
  exact hk34 H
set_option maxRecDepth 20000 in
theorem zt_Machine_load_124 {a b L N : Nat} {k95 : zS → Int32 → Int32 → Int32 → Option (zS)} (hk95 : ∀ {σ : zS} {τ : zT} {v3 : Int32} {v5 : Int32} {v6 : Int32} {o1 : Option Value} {o2 : Option Value} {o4 : Option Value} {r : zS}, k95 σ v3 v5 v6 = some r → zx_go 2 138 95 [some (.ref 35), o1, o2, some (.int v3), o4, some (.int v5), some (.int v6)] [] ((119, a, b), zx_pk (zK L) 119, σ, τ, zR) = some (none, ((119, a, b), zx_pk (zK L) 119, r, τ, zR))) {σ : zS} {τ : zT} {v3 : Int32} {v5 : Int32} {v6 : Int32} {o1 : Option Value} {o2 : Option Value} {o4 : Option Value} {r : zS} (H : zb_Machine_load_124 k95 N σ v3 v5 v6 = some r) : zx_go 2 138 124 [some (.ref 35), o1, o2, some (.int v3), o4, some (.int v5), some (.int v6)] [] ((119, a, b), zx_pk (zK L) 119, σ, τ, zR) = some (none, ((119, a, b), zx_pk (zK L) 119, r, τ, zR)) := by
  unfold zb_Machine_load_124 at H
  rw [zs_iinc (ls := [some (.ref 35), o1, o2, some (.int v3), o4, some (.int v5), some (.int v6)]) (x := v6) (z := (v6 + 1)) (ls' := [some (.ref 35), o1, o2, some (.int v3), o4, some (.int v5), some (.int (v6 + 1))]) zd_138_124 rfl rfl rfl]
  rw [zs_goto (t := 95) zd_138_127 rfl]
  exact hk95 H
set_option maxRecDepth 20000 in
theorem zt_Machine_load_95 {a b L N : Nat} {k34 : zS → Int32 → Option (zS)} (hk34 : ∀ {σ : zS} {τ : zT} {v3 : Int32} {o1 : Option Value} {o2 : Option Value} {o4 : Option Value} {o5 : Option Value} {o6 : Option Value} {r : zS}, k34 σ v3 = some r → zx_go 2 138 34 [some (.ref 35), o1, o2, some (.int v3), o4, o5, o6] [] ((119, a, b), zx_pk (zK L) 119, σ, τ, zR) = some (none, ((119, a, b), zx_pk (zK L) 119, r, τ, zR))) : ∀ {n : Nat} {σ : zS} {τ : zT} {v3 : Int32} {v5 : Int32} {v6 : Int32} {o1 : Option Value} {o2 : Option Value} {o4 : Option Value} {r : zS}, zb_Machine_load_95 k34 N n σ v3 v5 v6 = some r → zx_go 2 138 95 [some (.ref 35), o1, o2, some (.int v3), o4, some (.int v5), some (.int v6)] [] ((119, a, b), zx_pk (zK L) 119, σ, τ, zR) = some (none, ((119, a, b), zx_pk (zK L) 119, r, τ, zR)) := by
  intro n
  induction n with
  | zero =>
    intro _ _ _ _ _ _ _ _ _ H
    cases H
  | succ n ih =>
    intro σ τ v3 v5 v6 o1 o2 o4 r H
    rw [zb_Machine_load_95] at H
    rw [zs_iload (ls := [some (.ref 35), o1, o2, some (.int v3), o4, some (.int v5), some (.int v6)]) zd_138_95 rfl]
    rw [zs_iconst (z := 4) zd_138_97 (by decide)]
    by_cases c11 : 4 ≤ v6
    · rw [if_pos c11] at H
      rw [zp_icmp_ge_t (x := v6) (y := 4) (t := 130) zd_138_98 rfl c11]
      exact zt_Machine_load_130 (hk34 := hk34) H
    · rw [if_neg c11] at H
      rw [zp_icmp_ge_f (x := v6) (y := 4) (t := 130) zd_138_98 rfl c11]
      rw [zs_iload (ls := [some (.ref 35), o1, o2, some (.int v3), o4, some (.int v5), some (.int v6)]) zd_138_101 rfl]
      by_cases c12 : v5 = 0
      · rw [if_pos c12] at H
        rw [zp_if_eq_t (x := v5) (t := 130) zd_138_103 rfl c12]
        exact zt_Machine_load_130 (hk34 := hk34) H
      · rw [if_neg c12] at H
        rw [zp_if_eq_f (x := v5) (t := 130) zd_138_103 rfl c12]
        rw [zs_iload (ls := [some (.ref 35), o1, o2, some (.int v3), o4, some (.int v5), some (.int v6)]) zd_138_106 rfl]
        rw [zs_iload (ls := [some (.ref 35), o1, o2, some (.int v3), o4, some (.int v5), some (.int v6)]) zd_138_108 rfl]
        rw [zp_iushr (x := v5) (y := v6) (z := (zJ_ushr v5 v6)) zd_138_110 rfl]
        rw [zs_iconst (z := 1) zd_138_111 (by decide)]
        rw [zp_iand (x := (zJ_ushr v5 v6)) (y := 1) (z := ((zJ_ushr v5 v6) &&& 1)) zd_138_112 rfl]
        by_cases c13 : ((zJ_ushr v5 v6) &&& 1) = 0
        · rw [if_pos c13] at H
          rw [zp_if_eq_t (x := ((zJ_ushr v5 v6) &&& 1)) (t := 124) zd_138_113 rfl c13]
          exact zt_Machine_load_124 (hk95 := ih) H
        · rw [if_neg c13] at H
          rw [zp_if_eq_f (x := ((zJ_ushr v5 v6) &&& 1)) (t := 124) zd_138_113 rfl c13]
          rw [zs_aload_n (ls := [some (.ref 35), o1, o2, some (.int v3), o4, some (.int v5), some (.int v6)]) zd_138_116 rfl]
          rw [zs_getR (n := 119) (K := zx_pk (zK L) 119) (ρ := zR) (c := 2) (k := 3) (q := 35) (p := 38) zd_138_117 rfl rfl rfl (by decide) rfl]
          rw [zs_iload (ls := [some (.ref 35), o1, o2, some (.int v3), o4, some (.int v5), some (.int v6)]) zd_138_120 rfl]
          rw [zs_iload_n (ls := [some (.ref 35), o1, o2, some (.int v3), o4, some (.int v5), some (.int v6)]) zd_138_122 rfl]
          by_cases c14 : 0 ≤ v6 ∧ v6 < 4
          · rw [if_pos c14] at H
            rw [zp_iastore (n := 119) (K := zx_pk (zK L) 119) (q := 38) (m := 4) (i := v6) (k := v6.toNatClampNeg) (x := v3) (z := v3) zd_138_123 rfl ⟨by decide, by decide⟩ (zJ_in c14 rfl) rfl rfl]
            exact zt_Machine_load_124 (hk95 := ih) H
          · rw [if_neg c14] at H
            cases H
set_option maxRecDepth 20000 in
theorem zt_Machine_load_34 {a b L N : Nat} : ∀ {n : Nat} {σ : zS} {τ : zT} {v3 : Int32} {o1 : Option Value} {o2 : Option Value} {o4 : Option Value} {o5 : Option Value} {o6 : Option Value} {r : zS}, zb_Machine_load_34 N n σ v3 = some r → zx_go 2 138 34 [some (.ref 35), o1, o2, some (.int v3), o4, o5, o6] [] ((119, a, b), zx_pk (zK L) 119, σ, τ, zR) = some (none, ((119, a, b), zx_pk (zK L) 119, r, τ, zR)) := by
  intro n
  induction n with
  | zero =>
    intro _ _ _ _ _ _ _ _ _ H
    cases H
  | succ n ih =>
    intro σ τ v3 o1 o2 o4 o5 o6 r H
    rw [zb_Machine_load_34] at H
    rw [zs_iload_n (ls := [some (.ref 35), o1, o2, some (.int v3), o4, o5, o6]) zd_138_34 rfl]
    rw [zs_iconst (z := 4) zd_138_35 (by decide)]
    by_cases c5 : 4 ≤ v3
    · rw [if_pos c5] at H
      rw [zp_icmp_ge_t (x := v3) (y := 4) (t := 136) zd_138_36 rfl c5]
      have H := Option.some.inj H
      subst H
      exact zs_return zd_138_136 (by decide +kernel)
    · rw [if_neg c5] at H
      rw [zp_icmp_ge_f (x := v3) (y := 4) (t := 136) zd_138_36 rfl c5]
      rw [zs_aload_n (ls := [some (.ref 35), o1, o2, some (.int v3), o4, o5, o6]) zd_138_39 rfl]
      rw [zs_getR (n := 119) (K := zx_pk (zK L) 119) (ρ := zR) (c := 2) (k := 4) (q := 35) (p := 39) zd_138_40 rfl rfl rfl (by decide) rfl]
      rw [zs_iload_n (ls := [some (.ref 35), o1, o2, some (.int v3), o4, o5, o6]) zd_138_43 rfl]
      rw [zs_iconst (z := 1) zd_138_44 (by decide)]
      rw [zp_iadd (x := v3) (y := 1) (z := (v3 + 1)) zd_138_45 rfl]
      by_cases c6 : 0 ≤ (v3 + 1) ∧ (v3 + 1) < 5
      · rw [if_pos c6] at H
        rw [zp_iaload (n := 119) (K := zx_pk (zK L) 119) (σ := σ) (q := 39) (m := 5) (i := (v3 + 1)) (k := (v3 + 1).toNatClampNeg) (v := (σ 39 (v3 + 1).toNatClampNeg)) zd_138_46 rfl (by decide) (zJ_in c6 rfl) rfl rfl]
        rw [zs_istore (x := (σ 39 (v3 + 1).toNatClampNeg)) (ls' := [some (.ref 35), o1, o2, some (.int v3), some (.int (σ 39 (v3 + 1).toNatClampNeg)), o5, o6]) zd_138_47 (Nat.le_of_ble_eq_true rfl) rfl]
        rw [zs_aload_n (ls := [some (.ref 35), o1, o2, some (.int v3), some (.int (σ 39 (v3 + 1).toNatClampNeg)), o5, o6]) zd_138_49 rfl]
        rw [zs_getR (n := 119) (K := zx_pk (zK L) 119) (ρ := zR) (c := 2) (k := 1) (q := 35) (p := 36) zd_138_50 rfl rfl rfl (by decide) rfl]
        rw [zs_iload_n (ls := [some (.ref 35), o1, o2, some (.int v3), some (.int (σ 39 (v3 + 1).toNatClampNeg)), o5, o6]) zd_138_53 rfl]
        rw [zs_iload (ls := [some (.ref 35), o1, o2, some (.int v3), some (.int (σ 39 (v3 + 1).toNatClampNeg)), o5, o6]) zd_138_54 rfl]
        rw [zs_bipush (z := 14) zd_138_56 (by decide)]
        rw [zp_iushr (x := (σ 39 (v3 + 1).toNatClampNeg)) (y := 14) (z := (zJ_ushr (σ 39 (v3 + 1).toNatClampNeg) 14)) zd_138_58 rfl]
        rw [zs_bipush (z := 7) zd_138_59 (by decide)]
        rw [zp_iand (x := (zJ_ushr (σ 39 (v3 + 1).toNatClampNeg) 14)) (y := 7) (z := ((zJ_ushr (σ 39 (v3 + 1).toNatClampNeg) 14) &&& 7)) zd_138_61 rfl]
        by_cases c7 : 0 ≤ v3 ∧ v3 < 4
        · rw [if_pos c7] at H
          rw [zp_iastore (n := 119) (K := zx_pk (zK L) 119) (q := 36) (m := 4) (i := v3) (k := v3.toNatClampNeg) (x := ((zJ_ushr (σ 39 (v3 + 1).toNatClampNeg) 14) &&& 7)) (z := ((zJ_ushr (σ 39 (v3 + 1).toNatClampNeg) 14) &&& 7)) zd_138_62 rfl ⟨by decide, by decide⟩ (zJ_in c7 rfl) rfl rfl]
          rw [zs_aload_n (ls := [some (.ref 35), o1, o2, some (.int v3), some (.int (σ 39 (v3 + 1).toNatClampNeg)), o5, o6]) zd_138_63 rfl]
          rw [zs_getR (n := 119) (K := zx_pk (zK L) 119) (ρ := zR) (c := 2) (k := 2) (q := 35) (p := 37) zd_138_64 rfl rfl rfl (by decide) rfl]
          rw [zs_iload_n (ls := [some (.ref 35), o1, o2, some (.int v3), some (.int (σ 39 (v3 + 1).toNatClampNeg)), o5, o6]) zd_138_67 rfl]
          rw [zs_aload_n (ls := [some (.ref 35), o1, o2, some (.int v3), some (.int (σ 39 (v3 + 1).toNatClampNeg)), o5, o6]) zd_138_68 rfl]
          rw [zs_getR (n := 119) (K := zx_pk (zK L) 119) (ρ := zR) (c := 2) (k := 0) (q := 35) (p := 4) zd_138_69 rfl rfl rfl (by decide) rfl]
          rw [zs_iload_n (ls := [some (.ref 35), o1, o2, some (.int v3), some (.int (σ 39 (v3 + 1).toNatClampNeg)), o5, o6]) zd_138_72 rfl]
          rw [zs_iload (ls := [some (.ref 35), o1, o2, some (.int v3), some (.int (σ 39 (v3 + 1).toNatClampNeg)), o5, o6]) zd_138_73 rfl]
          rw [zs_bipush (z := 9) zd_138_75 (by decide)]
          rw [zp_iushr (x := (σ 39 (v3 + 1).toNatClampNeg)) (y := 9) (z := (zJ_ushr (σ 39 (v3 + 1).toNatClampNeg) 9)) zd_138_77 rfl]
          rw [zs_bipush (z := 31) zd_138_78 (by decide)]
          rw [zp_iand (x := (zJ_ushr (σ 39 (v3 + 1).toNatClampNeg) 9)) (y := 31) (z := ((zJ_ushr (σ 39 (v3 + 1).toNatClampNeg) 9) &&& 31)) zd_138_80 rfl]
          obtain ⟨r8, hr8, H⟩ := Option.bind_eq_some_iff.mp H
          rw [zp_callVi (x := r8) (st := [.int ((zJ_ushr (σ 39 (v3 + 1).toNatClampNeg) 9) &&& 31), .int v3, .ref 4, .int v3, .ref 37]) (as := [.ref 4, .int v3, .int ((zJ_ushr (σ 39 (v3 + 1).toNatClampNeg) 9) &&& 31)]) (rest := [.int v3, .ref 37]) (e := 0) zd_138_81 rfl (by decide +kernel) (by decide) rfl rfl (Nat.le_of_ble_eq_true rfl) (zx_rcb_ok rfl (show 4 < 119 by decide)) (Nat.le_of_ble_eq_true rfl) rfl (by decide) (zt_Program_slotOf hr8)]
          by_cases c9 : 0 ≤ v3 ∧ v3 < 4
          · rw [if_pos c9] at H
            rw [zp_iastore (n := 119) (K := zx_pk (zK L) 119) (q := 37) (m := 4) (i := v3) (k := v3.toNatClampNeg) (x := r8) (z := r8) zd_138_84 rfl ⟨by decide, by decide⟩ (zJ_in c9 rfl) rfl rfl]
            rw [zs_aload_n (ls := [some (.ref 35), o1, o2, some (.int v3), some (.int (σ 39 (v3 + 1).toNatClampNeg)), o5, o6]) zd_138_85 rfl]
            rw [zs_iload_n (ls := [some (.ref 35), o1, o2, some (.int v3), some (.int (σ 39 (v3 + 1).toNatClampNeg)), o5, o6]) zd_138_86 rfl]
            obtain ⟨r10, hr10, H⟩ := Option.bind_eq_some_iff.mp H
            rw [zp_callVi (x := r10) (st := [.int v3, .ref 35]) (as := [.ref 35, .int v3]) (rest := []) (e := 1) zd_138_87 rfl (by decide +kernel) (by decide) rfl rfl (Nat.le_of_ble_eq_true rfl) (zx_rcb_ok rfl (show 35 < 119 by decide)) (Nat.le_of_ble_eq_true rfl) rfl (by decide) (zt_Machine_locksOf hr10)]
            rw [zs_istore (x := r10) (ls' := [some (.ref 35), o1, o2, some (.int v3), some (.int (σ 39 (v3 + 1).toNatClampNeg)), some (.int r10), o6]) zd_138_90 (Nat.le_of_ble_eq_true rfl) rfl]
            rw [zs_iconst (z := 0) zd_138_92 (by decide)]
            rw [zs_istore (x := 0) (ls' := [some (.ref 35), o1, o2, some (.int v3), some (.int (σ 39 (v3 + 1).toNatClampNeg)), some (.int r10), some (.int 0)]) zd_138_93 (Nat.le_of_ble_eq_true rfl) rfl]
            exact zt_Machine_load_95 (hk34 := ih) H
          · rw [if_neg c9] at H
            cases H
        · rw [if_neg c7] at H
          cases H
      · rw [if_neg c6] at H
        cases H
set_option maxRecDepth 20000 in
theorem zt_Machine_load {a b L N : Nat} {σ : zS} {τ : zT} {x2 : Int32} {r : zS} (H : zf_Machine_load N σ x2 = some r) : zx_go 2 138 0 [some (.ref 35), some (.ref 42), some (.int x2), none, none, none, none] [] ((119, a, b), zx_pk (zK L) 119, σ, τ, zR) = some (none, ((119, a, b), zx_pk (zK L) 119, r, τ, zR)) := by
  unfold zf_Machine_load at H
  rw [zs_iload_n (ls := [some (.ref 35), some (.ref 42), some (.int x2), none, none, none, none]) zd_138_0 rfl]
  by_cases c1 : x2 < 0
  · rw [if_pos c1] at H
    rw [zp_if_lt_t (x := x2) (t := 12) zd_138_1 rfl c1]
    have H := Option.some.inj H
    subst H
    exact zs_return zd_138_12 (by decide +kernel)
  · rw [if_neg c1] at H
    rw [zp_if_lt_f (x := x2) (t := 12) zd_138_1 rfl c1]
    rw [zs_iload_n (ls := [some (.ref 35), some (.ref 42), some (.int x2), none, none, none, none]) zd_138_4 rfl]
    rw [zs_iconst (z := 5) zd_138_5 (by decide)]
    rw [zp_iadd (x := x2) (y := 5) (z := (x2 + 5)) zd_138_6 rfl]
    rw [zs_aload_n (ls := [some (.ref 35), some (.ref 42), some (.int x2), none, none, none, none]) zd_138_7 rfl]
    rw [zs_arraylength (n := 119) (K := zx_pk (zK L) 119) (q := 42) (m := 20000) (z := 20000) zd_138_8 rfl (by decide) (by decide)]
    by_cases c2 : (x2 + 5) ≤ 20000
    · rw [if_pos c2] at H
      rw [zp_icmp_le_t (x := (x2 + 5)) (y := 20000) (t := 13) zd_138_9 rfl c2]
      rw [zs_aload_n (ls := [some (.ref 35), some (.ref 42), some (.int x2), none, none, none, none]) zd_138_13 rfl]
      rw [zs_iload_n (ls := [some (.ref 35), some (.ref 42), some (.int x2), none, none, none, none]) zd_138_14 rfl]
      rw [zs_aload_n (ls := [some (.ref 35), some (.ref 42), some (.int x2), none, none, none, none]) zd_138_15 rfl]
      rw [zs_getR (n := 119) (K := zx_pk (zK L) 119) (ρ := zR) (c := 2) (k := 4) (q := 35) (p := 39) zd_138_16 rfl rfl rfl (by decide) rfl]
      rw [zs_iconst (z := 0) zd_138_19 (by decide)]
      rw [zs_iconst (z := 5) zd_138_20 (by decide)]
      by_cases c3 : 0 ≤ x2 ∧ x2 ≤ 19995
      · rw [if_pos c3] at H
        rw [zp_copy (r := []) (n := 119) (K := zx_pk (zK L) 119) (σ := σ) (a := 42) (b := 39) (n0 := 20000) (n1 := 5) (sp := x2) (dp := 0) (m := 5) zd_138_21 rfl (Nat.le_of_ble_eq_true rfl) rfl rfl ⟨by decide, by decide⟩ (zJ_cpi (c0 := 19995) (c1 := 0) ⟨c3.1, c3.2, by decide, by decide⟩ (by decide) (by decide) (by decide))]
        rw [zs_aload_n (ls := [some (.ref 35), some (.ref 42), some (.int x2), none, none, none, none]) zd_138_24 rfl]
        rw [zs_getR (n := 119) (K := zx_pk (zK L) 119) (ρ := zR) (c := 2) (k := 3) (q := 35) (p := 38) zd_138_25 rfl rfl rfl (by decide) rfl]
        rw [zs_iconst (z := (-1)) zd_138_28 (by decide)]
        obtain ⟨r4, hr4, H⟩ := Option.bind_eq_some_iff.mp H
        rw [zp_callSv (st := [.int (-1), .ref 38]) (as := [.ref 38, .int (-1)]) (rest := []) (e := 0) zd_138_29 rfl (by decide +kernel) (by decide) rfl rfl (Nat.le_of_ble_eq_true rfl) rfl (Nat.le_of_ble_eq_true rfl) rfl (by decide) (zt_Arrays_fill_c4 hr4)]
        rw [zs_iconst (z := 0) zd_138_32 (by decide)]
        rw [zs_istore_n (x := 0) (ls' := [some (.ref 35), some (.ref 42), some (.int x2), some (.int 0), none, none, none]) zd_138_33 (Nat.le_of_ble_eq_true rfl) rfl]
        exact zt_Machine_load_34  H
      · rw [if_neg c3] at H
        cases H
    · rw [if_neg c2] at H
      rw [zp_icmp_le_f (x := (x2 + 5)) (y := 20000) (t := 13) zd_138_9 rfl c2]
      have H := Option.some.inj H
      subst H
      exact zs_return zd_138_12 (by decide +kernel)
set_option maxRecDepth 20000 in
theorem zt_Space_load {a b L N : Nat} {σ : zS} {τ : zT} {x1 : Int32} {r : zS} (H : zf_Space_load N σ x1 = some r) : zx_go 3 137 0 [some (.ref 41), some (.int x1)] [] ((119, a, b), zx_pk (zK L) 119, σ, τ, zR) = some (none, ((119, a, b), zx_pk (zK L) 119, r, τ, zR)) := by
  unfold zf_Space_load at H
  rw [zs_aload_n (ls := [some (.ref 41), some (.int x1)]) zd_137_0 rfl]
  rw [zs_iload_n (ls := [some (.ref 41), some (.int x1)]) zd_137_1 rfl]
  obtain ⟨r1, hr1, H⟩ := Option.bind_eq_some_iff.mp H
  rw [zp_callVi (x := r1) (st := [.int x1, .ref 41]) (as := [.ref 41, .int x1]) (rest := []) (e := 0) zd_137_2 rfl (by decide +kernel) (by decide) rfl rfl (Nat.le_of_ble_eq_true rfl) (zx_rcb_ok rfl (show 41 < 119 by decide)) (Nat.le_of_ble_eq_true rfl) rfl (by decide) (zt_Space_has hr1)]
  by_cases c2 : r1 = 0
  · rw [if_pos c2] at H
    rw [zp_if_eq_t (x := r1) (t := 22) zd_137_5 rfl c2]
    have H := Option.some.inj H
    subst H
    exact zs_return zd_137_22 (by decide +kernel)
  · rw [if_neg c2] at H
    rw [zp_if_eq_f (x := r1) (t := 22) zd_137_5 rfl c2]
    rw [zs_aload_n (ls := [some (.ref 41), some (.int x1)]) zd_137_8 rfl]
    rw [zs_getR (n := 119) (K := zx_pk (zK L) 119) (ρ := zR) (c := 8) (k := 1) (q := 41) (p := 35) zd_137_9 rfl rfl rfl (by decide) rfl]
    rw [zs_aload_n (ls := [some (.ref 41), some (.int x1)]) zd_137_12 rfl]
    rw [zs_getR (n := 119) (K := zx_pk (zK L) 119) (ρ := zR) (c := 8) (k := 2) (q := 41) (p := 42) zd_137_13 rfl rfl rfl (by decide) rfl]
    rw [zs_iload_n (ls := [some (.ref 41), some (.int x1)]) zd_137_16 rfl]
    rw [zs_iconst (z := 5) zd_137_17 (by decide)]
    rw [zp_imul (x := x1) (y := 5) (z := (x1 * 5)) zd_137_18 rfl]
    obtain ⟨r3, hr3, H⟩ := Option.bind_eq_some_iff.mp H
    rw [zp_callVv (st := [.int (x1 * 5), .ref 42, .ref 35]) (as := [.ref 35, .ref 42, .int (x1 * 5)]) (rest := []) (e := 2) zd_137_19 rfl (by decide +kernel) (by decide) rfl rfl (Nat.le_of_ble_eq_true rfl) (zx_rcb_ok rfl (show 35 < 119 by decide)) (Nat.le_of_ble_eq_true rfl) rfl (by decide) (zt_Machine_load hr3)]
    have H := Option.some.inj H
    subst H
    exact zs_return zd_137_22 (by decide +kernel)
set_option maxRecDepth 20000 in
theorem zt_Machine_wordOf {a b L : Nat} {σ : zS} {τ : zT} {x1 : Int32} {r : Int32} (H : zf_Machine_wordOf σ x1 = some r) : zx_go 0 143 0 [some (.ref 35), some (.int x1)] [] ((119, a, b), zx_pk (zK L) 119, σ, τ, zR) = some (some (.int r), ((119, a, b), zx_pk (zK L) 119, σ, τ, zR)) := by
  unfold zf_Machine_wordOf at H
  rw [zs_iload_n (ls := [some (.ref 35), some (.int x1)]) zd_143_0 rfl]
  by_cases c1 : x1 < 0
  · rw [if_pos c1] at H
    rw [zp_if_lt_t (x := x1) (t := 20) zd_143_1 rfl c1]
    rw [zs_iconst (z := 0) zd_143_20 (by decide)]
    have H := Option.some.inj H
    subst H
    exact zs_ireturn zd_143_21 (by decide +kernel)
  · rw [if_neg c1] at H
    rw [zp_if_lt_f (x := x1) (t := 20) zd_143_1 rfl c1]
    rw [zs_iload_n (ls := [some (.ref 35), some (.int x1)]) zd_143_4 rfl]
    rw [zs_iconst (z := 4) zd_143_5 (by decide)]
    by_cases c2 : 4 ≤ x1
    · rw [if_pos c2] at H
      rw [zp_icmp_ge_t (x := x1) (y := 4) (t := 20) zd_143_6 rfl c2]
      rw [zs_iconst (z := 0) zd_143_20 (by decide)]
      have H := Option.some.inj H
      subst H
      exact zs_ireturn zd_143_21 (by decide +kernel)
    · rw [if_neg c2] at H
      rw [zp_icmp_ge_f (x := x1) (y := 4) (t := 20) zd_143_6 rfl c2]
      rw [zs_aload_n (ls := [some (.ref 35), some (.int x1)]) zd_143_9 rfl]
      rw [zs_getR (n := 119) (K := zx_pk (zK L) 119) (ρ := zR) (c := 2) (k := 4) (q := 35) (p := 39) zd_143_10 rfl rfl rfl (by decide) rfl]
      rw [zs_iload_n (ls := [some (.ref 35), some (.int x1)]) zd_143_13 rfl]
      rw [zs_iconst (z := 1) zd_143_14 (by decide)]
      rw [zp_iadd (x := x1) (y := 1) (z := (x1 + 1)) zd_143_15 rfl]
      by_cases c3 : 0 ≤ (x1 + 1) ∧ (x1 + 1) < 5
      · rw [if_pos c3] at H
        rw [zp_iaload (n := 119) (K := zx_pk (zK L) 119) (σ := σ) (q := 39) (m := 5) (i := (x1 + 1)) (k := (x1 + 1).toNatClampNeg) (v := (σ 39 (x1 + 1).toNatClampNeg)) zd_143_16 rfl (by decide) (zJ_in c3 rfl) rfl rfl]
        rw [zs_goto (t := 21) zd_143_17 rfl]
        have H := Option.some.inj H
        subst H
        exact zs_ireturn zd_143_21 rfl
      · rw [if_neg c3] at H
        cases H
set_option maxRecDepth 20000 in
theorem zt_Machine_ownerOf {a b L : Nat} {σ : zS} {τ : zT} {x1 : Int32} {r : Int32} (H : zf_Machine_ownerOf σ x1 = some r) : zx_go 0 145 0 [some (.ref 35), some (.int x1)] [] ((119, a, b), zx_pk (zK L) 119, σ, τ, zR) = some (some (.int r), ((119, a, b), zx_pk (zK L) 119, σ, τ, zR)) := by
  unfold zf_Machine_ownerOf at H
  rw [zs_iload_n (ls := [some (.ref 35), some (.int x1)]) zd_145_0 rfl]
  by_cases c1 : x1 < 0
  · rw [if_pos c1] at H
    rw [zp_if_lt_t (x := x1) (t := 18) zd_145_1 rfl c1]
    rw [zs_iconst (z := (-1)) zd_145_18 (by decide)]
    have H := Option.some.inj H
    subst H
    exact zs_ireturn zd_145_19 (by decide +kernel)
  · rw [if_neg c1] at H
    rw [zp_if_lt_f (x := x1) (t := 18) zd_145_1 rfl c1]
    rw [zs_iload_n (ls := [some (.ref 35), some (.int x1)]) zd_145_4 rfl]
    rw [zs_iconst (z := 4) zd_145_5 (by decide)]
    by_cases c2 : 4 ≤ x1
    · rw [if_pos c2] at H
      rw [zp_icmp_ge_t (x := x1) (y := 4) (t := 18) zd_145_6 rfl c2]
      rw [zs_iconst (z := (-1)) zd_145_18 (by decide)]
      have H := Option.some.inj H
      subst H
      exact zs_ireturn zd_145_19 (by decide +kernel)
    · rw [if_neg c2] at H
      rw [zp_icmp_ge_f (x := x1) (y := 4) (t := 18) zd_145_6 rfl c2]
      rw [zs_aload_n (ls := [some (.ref 35), some (.int x1)]) zd_145_9 rfl]
      rw [zs_getR (n := 119) (K := zx_pk (zK L) 119) (ρ := zR) (c := 2) (k := 3) (q := 35) (p := 38) zd_145_10 rfl rfl rfl (by decide) rfl]
      rw [zs_iload_n (ls := [some (.ref 35), some (.int x1)]) zd_145_13 rfl]
      by_cases c3 : 0 ≤ x1 ∧ x1 < 4
      · rw [if_pos c3] at H
        rw [zp_iaload (n := 119) (K := zx_pk (zK L) 119) (σ := σ) (q := 38) (m := 4) (i := x1) (k := x1.toNatClampNeg) (v := (σ 38 x1.toNatClampNeg)) zd_145_14 rfl (by decide) (zJ_in c3 rfl) rfl rfl]
        rw [zs_goto (t := 19) zd_145_15 rfl]
        have H := Option.some.inj H
        subst H
        exact zs_ireturn zd_145_19 rfl
      · rw [if_neg c3] at H
        cases H
set_option maxRecDepth 20000 in
theorem zt_Machine_canMove_134 {a b L : Nat} {σ : zS} {τ : zT} {o0 : Option Value} {o1 : Option Value} {o2 : Option Value} {o3 : Option Value} {o4 : Option Value} {r : Int32} (H : zb_Machine_canMove_134 σ = some r) : zx_go 1 144 134 [o0, o1, o2, o3, o4] [] ((119, a, b), zx_pk (zK L) 119, σ, τ, zR) = some (some (.int r), ((119, a, b), zx_pk (zK L) 119, σ, τ, zR)) := by
  unfold zb_Machine_canMove_134 at H
  rw [zs_iconst (z := 1) zd_144_134 (by decide)]
  rw [zs_goto (t := 139) zd_144_135 rfl]
  have H := Option.some.inj H
  subst H
  exact zs_ireturn zd_144_139 (by decide +kernel)
set_option maxRecDepth 20000 in
theorem zt_Machine_canMove_108 {a b L : Nat} {σ : zS} {τ : zT} {o0 : Option Value} {o1 : Option Value} {o2 : Option Value} {o3 : Option Value} {o4 : Option Value} {r : Int32} (H : zb_Machine_canMove_108 σ = some r) : zx_go 1 144 108 [o0, o1, o2, o3, o4] [] ((119, a, b), zx_pk (zK L) 119, σ, τ, zR) = some (some (.int r), ((119, a, b), zx_pk (zK L) 119, σ, τ, zR)) := by
  unfold zb_Machine_canMove_108 at H
  rw [zs_iconst (z := 1) zd_144_108 (by decide)]
  rw [zs_goto (t := 113) zd_144_109 rfl]
  have H := Option.some.inj H
  subst H
  exact zs_ireturn zd_144_113 (by decide +kernel)
set_option maxRecDepth 20000 in
theorem zt_Machine_canMove {a b L : Nat} {σ : zS} {τ : zT} {x1 : Int32} {r : Int32} (H : zf_Machine_canMove σ x1 = some r) : zx_go 1 144 0 [some (.ref 35), some (.int x1), none, none, none] [] ((119, a, b), zx_pk (zK L) 119, σ, τ, zR) = some (some (.int r), ((119, a, b), zx_pk (zK L) 119, σ, τ, zR)) := by
  unfold zf_Machine_canMove at H
  rw [zs_aload_n (ls := [some (.ref 35), some (.int x1), none, none, none]) zd_144_0 rfl]
  rw [zs_iload_n (ls := [some (.ref 35), some (.int x1), none, none, none]) zd_144_1 rfl]
  obtain ⟨r1, hr1, H⟩ := Option.bind_eq_some_iff.mp H
  rw [zp_callVi (x := r1) (st := [.int x1, .ref 35]) (as := [.ref 35, .int x1]) (rest := []) (e := 0) zd_144_2 rfl (by decide +kernel) (by decide) rfl rfl (Nat.le_of_ble_eq_true rfl) (zx_rcb_ok rfl (show 35 < 119 by decide)) (Nat.le_of_ble_eq_true rfl) rfl (by decide) (zt_Machine_howOf hr1)]
  rw [zs_istore_n (x := r1) (ls' := [some (.ref 35), some (.int x1), some (.int r1), none, none]) zd_144_5 (Nat.le_of_ble_eq_true rfl) rfl]
  rw [zs_aload_n (ls := [some (.ref 35), some (.int x1), some (.int r1), none, none]) zd_144_6 rfl]
  rw [zs_iload_n (ls := [some (.ref 35), some (.int x1), some (.int r1), none, none]) zd_144_7 rfl]
  obtain ⟨r2, hr2, H⟩ := Option.bind_eq_some_iff.mp H
  rw [zp_callVi (x := r2) (st := [.int x1, .ref 35]) (as := [.ref 35, .int x1]) (rest := []) (e := 0) zd_144_8 rfl (by decide +kernel) (by decide) rfl rfl (Nat.le_of_ble_eq_true rfl) (zx_rcb_ok rfl (show 35 < 119 by decide)) (Nat.le_of_ble_eq_true rfl) rfl (by decide) (zt_Machine_slotOf hr2)]
  rw [zs_istore_n (x := r2) (ls' := [some (.ref 35), some (.int x1), some (.int r1), some (.int r2), none]) zd_144_11 (Nat.le_of_ble_eq_true rfl) rfl]
  rw [zs_aload_n (ls := [some (.ref 35), some (.int x1), some (.int r1), some (.int r2), none]) zd_144_12 rfl]
  rw [zs_getR (n := 119) (K := zx_pk (zK L) 119) (ρ := zR) (c := 2) (k := 0) (q := 35) (p := 4) zd_144_13 rfl rfl rfl (by decide) rfl]
  rw [zs_getR (n := 119) (K := zx_pk (zK L) 119) (ρ := zR) (c := 6) (k := 10) (q := 4) (p := 8) zd_144_16 rfl rfl rfl (by decide) rfl]
  rw [zs_iload_n (ls := [some (.ref 35), some (.int x1), some (.int r1), some (.int r2), none]) zd_144_19 rfl]
  by_cases c3 : 0 ≤ r2 ∧ r2 < 97
  · rw [if_pos c3] at H
    rw [zp_iaload (n := 119) (K := zx_pk (zK L) 119) (σ := σ) (q := 8) (m := 97) (i := r2) (k := r2.toNatClampNeg) (v := (σ 8 r2.toNatClampNeg)) zd_144_20 rfl (by decide) (zJ_in c3 rfl) rfl rfl]
    rw [zs_istore (x := (σ 8 r2.toNatClampNeg)) (ls' := [some (.ref 35), some (.int x1), some (.int r1), some (.int r2), some (.int (σ 8 r2.toNatClampNeg))]) zd_144_21 (Nat.le_of_ble_eq_true rfl) rfl]
    rw [zs_iload_n (ls := [some (.ref 35), some (.int x1), some (.int r1), some (.int r2), some (.int (σ 8 r2.toNatClampNeg))]) zd_144_23 rfl]
    rw [zs_iconst (z := 3) zd_144_24 (by decide)]
    by_cases c4 : ¬ r1 = 3
    · rw [if_pos c4] at H
      rw [zp_icmp_ne_t (x := r1) (y := 3) (t := 44) zd_144_25 rfl c4]
      rw [zs_iload_n (ls := [some (.ref 35), some (.int x1), some (.int r1), some (.int r2), some (.int (σ 8 r2.toNatClampNeg))]) zd_144_44 rfl]
      rw [zs_iconst (z := 1) zd_144_45 (by decide)]
      by_cases c5 : r1 = 1
      · rw [if_pos c5] at H
        rw [zp_icmp_eq_t (x := r1) (y := 1) (t := 51) zd_144_46 rfl c5]
        rw [zs_aload_n (ls := [some (.ref 35), some (.int x1), some (.int r1), some (.int r2), some (.int (σ 8 r2.toNatClampNeg))]) zd_144_51 rfl]
        rw [zs_getR (n := 119) (K := zx_pk (zK L) 119) (ρ := zR) (c := 2) (k := 0) (q := 35) (p := 4) zd_144_52 rfl rfl rfl (by decide) rfl]
        rw [zs_getR (n := 119) (K := zx_pk (zK L) 119) (ρ := zR) (c := 6) (k := 9) (q := 4) (p := 7) zd_144_55 rfl rfl rfl (by decide) rfl]
        rw [zs_iload_n (ls := [some (.ref 35), some (.int x1), some (.int r1), some (.int r2), some (.int (σ 8 r2.toNatClampNeg))]) zd_144_58 rfl]
        by_cases c6 : 0 ≤ r2 ∧ r2 < 97
        · rw [if_pos c6] at H
          rw [zp_iaload (n := 119) (K := zx_pk (zK L) 119) (σ := σ) (q := 7) (m := 97) (i := r2) (k := r2.toNatClampNeg) (v := (σ 7 r2.toNatClampNeg)) zd_144_59 rfl (by decide) (zJ_in c6 rfl) rfl rfl]
          by_cases c7 : (σ 7 r2.toNatClampNeg) = 3
          · rw [if_pos c7] at H
            rw [zs_lookup (x := (σ 7 r2.toNatClampNeg)) (off := 28) (t := 88) zd_144_60 (by decide) (by rw [c7]; decide) rfl]
            rw [zs_aload_n (ls := [some (.ref 35), some (.int x1), some (.int r1), some (.int r2), some (.int (σ 8 r2.toNatClampNeg))]) zd_144_88 rfl]
            rw [zs_iload (ls := [some (.ref 35), some (.int x1), some (.int r1), some (.int r2), some (.int (σ 8 r2.toNatClampNeg))]) zd_144_89 rfl]
            obtain ⟨r13, hr13, H⟩ := Option.bind_eq_some_iff.mp H
            rw [zp_callVi (x := r13) (st := [.int (σ 8 r2.toNatClampNeg), .ref 35]) (as := [.ref 35, .int (σ 8 r2.toNatClampNeg)]) (rest := []) (e := 0) zd_144_91 rfl (by decide +kernel) (by decide) rfl rfl (Nat.le_of_ble_eq_true rfl) (zx_rcb_ok rfl (show 35 < 119 by decide)) (Nat.le_of_ble_eq_true rfl) rfl (by decide) (zt_Machine_ownerOf hr13)]
            rw [zs_iconst (z := (-1)) zd_144_94 (by decide)]
            by_cases c14 : r13 = (-1)
            · rw [if_pos c14] at H
              rw [zp_icmp_eq_t (x := r13) (y := (-1)) (t := 108) zd_144_95 rfl c14]
              exact zt_Machine_canMove_108  H
            · rw [if_neg c14] at H
              rw [zp_icmp_eq_f (x := r13) (y := (-1)) (t := 108) zd_144_95 rfl c14]
              rw [zs_aload_n (ls := [some (.ref 35), some (.int x1), some (.int r1), some (.int r2), some (.int (σ 8 r2.toNatClampNeg))]) zd_144_98 rfl]
              rw [zs_iload (ls := [some (.ref 35), some (.int x1), some (.int r1), some (.int r2), some (.int (σ 8 r2.toNatClampNeg))]) zd_144_99 rfl]
              obtain ⟨r15, hr15, H⟩ := Option.bind_eq_some_iff.mp H
              rw [zp_callVi (x := r15) (st := [.int (σ 8 r2.toNatClampNeg), .ref 35]) (as := [.ref 35, .int (σ 8 r2.toNatClampNeg)]) (rest := []) (e := 0) zd_144_101 rfl (by decide +kernel) (by decide) rfl rfl (Nat.le_of_ble_eq_true rfl) (zx_rcb_ok rfl (show 35 < 119 by decide)) (Nat.le_of_ble_eq_true rfl) rfl (by decide) (zt_Machine_ownerOf hr15)]
              rw [zs_iload_n (ls := [some (.ref 35), some (.int x1), some (.int r1), some (.int r2), some (.int (σ 8 r2.toNatClampNeg))]) zd_144_104 rfl]
              by_cases c16 : ¬ r15 = x1
              · rw [if_pos c16] at H
                rw [zp_icmp_ne_t (x := r15) (y := x1) (t := 112) zd_144_105 rfl c16]
                rw [zs_iconst (z := 0) zd_144_112 (by decide)]
                have H := Option.some.inj H
                subst H
                exact zs_ireturn zd_144_113 (by decide +kernel)
              · rw [if_neg c16] at H
                rw [zp_icmp_ne_f (x := r15) (y := x1) (t := 112) zd_144_105 rfl c16]
                exact zt_Machine_canMove_108  H
          · rw [if_neg c7] at H
            by_cases c8 : (σ 7 r2.toNatClampNeg) = 11
            · rw [if_pos c8] at H
              rw [zs_lookup (x := (σ 7 r2.toNatClampNeg)) (off := 54) (t := 114) zd_144_60 (by decide) (by rw [c8]; decide) rfl]
              rw [zs_aload_n (ls := [some (.ref 35), some (.int x1), some (.int r1), some (.int r2), some (.int (σ 8 r2.toNatClampNeg))]) zd_144_114 rfl]
              rw [zs_iload (ls := [some (.ref 35), some (.int x1), some (.int r1), some (.int r2), some (.int (σ 8 r2.toNatClampNeg))]) zd_144_115 rfl]
              obtain ⟨r9, hr9, H⟩ := Option.bind_eq_some_iff.mp H
              rw [zp_callVi (x := r9) (st := [.int (σ 8 r2.toNatClampNeg), .ref 35]) (as := [.ref 35, .int (σ 8 r2.toNatClampNeg)]) (rest := []) (e := 0) zd_144_117 rfl (by decide +kernel) (by decide) rfl rfl (Nat.le_of_ble_eq_true rfl) (zx_rcb_ok rfl (show 35 < 119 by decide)) (Nat.le_of_ble_eq_true rfl) rfl (by decide) (zt_Machine_howOf hr9)]
              rw [zs_iconst (z := 4) zd_144_120 (by decide)]
              by_cases c10 : r9 = 4
              · rw [if_pos c10] at H
                rw [zp_icmp_eq_t (x := r9) (y := 4) (t := 134) zd_144_121 rfl c10]
                exact zt_Machine_canMove_134  H
              · rw [if_neg c10] at H
                rw [zp_icmp_eq_f (x := r9) (y := 4) (t := 134) zd_144_121 rfl c10]
                rw [zs_aload_n (ls := [some (.ref 35), some (.int x1), some (.int r1), some (.int r2), some (.int (σ 8 r2.toNatClampNeg))]) zd_144_124 rfl]
                rw [zs_iload (ls := [some (.ref 35), some (.int x1), some (.int r1), some (.int r2), some (.int (σ 8 r2.toNatClampNeg))]) zd_144_125 rfl]
                obtain ⟨r11, hr11, H⟩ := Option.bind_eq_some_iff.mp H
                rw [zp_callVi (x := r11) (st := [.int (σ 8 r2.toNatClampNeg), .ref 35]) (as := [.ref 35, .int (σ 8 r2.toNatClampNeg)]) (rest := []) (e := 0) zd_144_127 rfl (by decide +kernel) (by decide) rfl rfl (Nat.le_of_ble_eq_true rfl) (zx_rcb_ok rfl (show 35 < 119 by decide)) (Nat.le_of_ble_eq_true rfl) rfl (by decide) (zt_Machine_howOf hr11)]
                rw [zs_iconst (z := 5) zd_144_130 (by decide)]
                by_cases c12 : ¬ r11 = 5
                · rw [if_pos c12] at H
                  rw [zp_icmp_ne_t (x := r11) (y := 5) (t := 138) zd_144_131 rfl c12]
                  rw [zs_iconst (z := 0) zd_144_138 (by decide)]
                  have H := Option.some.inj H
                  subst H
                  exact zs_ireturn zd_144_139 (by decide +kernel)
                · rw [if_neg c12] at H
                  rw [zp_icmp_ne_f (x := r11) (y := 5) (t := 138) zd_144_131 rfl c12]
                  exact zt_Machine_canMove_134  H
            · rw [if_neg c8] at H
              rw [zs_lookup (x := (σ 7 r2.toNatClampNeg)) (off := 80) (t := 140) zd_144_60 (by decide) (Eq.trans (if_neg (zJ_ne (x := (σ 7 r2.toNatClampNeg)) (z := 3) (a := 3) c7 rfl)) (Eq.trans (if_neg (zJ_ne (x := (σ 7 r2.toNatClampNeg)) (z := 11) (a := 11) c8 rfl)) rfl)) rfl]
              rw [zs_iconst (z := 1) zd_144_140 (by decide)]
              have H := Option.some.inj H
              subst H
              exact zs_ireturn zd_144_141 (by decide +kernel)
        · rw [if_neg c6] at H
          cases H
      · rw [if_neg c5] at H
        rw [zp_icmp_eq_f (x := r1) (y := 1) (t := 51) zd_144_46 rfl c5]
        rw [zs_iconst (z := 0) zd_144_49 (by decide)]
        have H := Option.some.inj H
        subst H
        exact zs_ireturn zd_144_50 (by decide +kernel)
    · rw [if_neg c4] at H
      rw [zp_icmp_ne_f (x := r1) (y := 3) (t := 44) zd_144_25 rfl c4]
      rw [zs_aload_n (ls := [some (.ref 35), some (.int x1), some (.int r1), some (.int r2), some (.int (σ 8 r2.toNatClampNeg))]) zd_144_28 rfl]
      rw [zs_iload (ls := [some (.ref 35), some (.int x1), some (.int r1), some (.int r2), some (.int (σ 8 r2.toNatClampNeg))]) zd_144_29 rfl]
      obtain ⟨r17, hr17, H⟩ := Option.bind_eq_some_iff.mp H
      rw [zp_callVi (x := r17) (st := [.int (σ 8 r2.toNatClampNeg), .ref 35]) (as := [.ref 35, .int (σ 8 r2.toNatClampNeg)]) (rest := []) (e := 0) zd_144_31 rfl (by decide +kernel) (by decide) rfl rfl (Nat.le_of_ble_eq_true rfl) (zx_rcb_ok rfl (show 35 < 119 by decide)) (Nat.le_of_ble_eq_true rfl) rfl (by decide) (zt_Machine_ownerOf hr17)]
      rw [zs_iconst (z := (-1)) zd_144_34 (by decide)]
      by_cases c18 : ¬ r17 = (-1)
      · rw [if_pos c18] at H
        rw [zp_icmp_ne_t (x := r17) (y := (-1)) (t := 42) zd_144_35 rfl c18]
        rw [zs_iconst (z := 0) zd_144_42 (by decide)]
        have H := Option.some.inj H
        subst H
        exact zs_ireturn zd_144_43 (by decide +kernel)
      · rw [if_neg c18] at H
        rw [zp_icmp_ne_f (x := r17) (y := (-1)) (t := 42) zd_144_35 rfl c18]
        rw [zs_iconst (z := 1) zd_144_38 (by decide)]
        rw [zs_goto (t := 43) zd_144_39 rfl]
        have H := Option.some.inj H
        subst H
        exact zs_ireturn zd_144_43 (by decide +kernel)
  · rw [if_neg c3] at H
    cases H
set_option maxRecDepth 20000 in
theorem zt_Machine_aloneIn_77 {a b L N : Nat} {k2 : zS → Int32 → Int32 → Option (Int32)} (hk2 : ∀ {σ : zS} {τ : zT} {v1 : Int32} {v2 : Int32} {o3 : Option Value} {r : Int32}, k2 σ v1 v2 = some r → zx_go 2 142 2 [some (.ref 35), some (.int v1), some (.int v2), o3] [] ((119, a, b), zx_pk (zK L) 119, σ, τ, zR) = some (some (.int r), ((119, a, b), zx_pk (zK L) 119, σ, τ, zR))) {σ : zS} {τ : zT} {v1 : Int32} {v2 : Int32} {o3 : Option Value} {r : Int32} (H : zb_Machine_aloneIn_77 k2 N σ v1 v2 = some r) : zx_go 2 142 77 [some (.ref 35), some (.int v1), some (.int v2), o3] [] ((119, a, b), zx_pk (zK L) 119, σ, τ, zR) = some (some (.int r), ((119, a, b), zx_pk (zK L) 119, σ, τ, zR)) := by
  unfold zb_Machine_aloneIn_77 at H
  rw [zs_iinc (ls := [some (.ref 35), some (.int v1), some (.int v2), o3]) (x := v2) (z := (v2 + 1)) (ls' := [some (.ref 35), some (.int v1), some (.int (v2 + 1)), o3]) zd_142_77 rfl rfl rfl]
  rw [zs_goto (t := 2) zd_142_80 rfl]
  exact hk2 H
set_option maxRecDepth 20000 in
theorem zt_Machine_aloneIn_62 {a b L N : Nat} {k2 : zS → Int32 → Int32 → Option (Int32)} (hk2 : ∀ {σ : zS} {τ : zT} {v1 : Int32} {v2 : Int32} {o3 : Option Value} {r : Int32}, k2 σ v1 v2 = some r → zx_go 2 142 2 [some (.ref 35), some (.int v1), some (.int v2), o3] [] ((119, a, b), zx_pk (zK L) 119, σ, τ, zR) = some (some (.int r), ((119, a, b), zx_pk (zK L) 119, σ, τ, zR))) {σ : zS} {τ : zT} {v1 : Int32} {v2 : Int32} {s0 : Int32} {o3 : Option Value} {r : Int32} (H : zb_Machine_aloneIn_62 k2 N σ v1 v2 s0 = some r) : zx_go 2 142 62 [some (.ref 35), some (.int v1), some (.int v2), o3] [.int s0] ((119, a, b), zx_pk (zK L) 119, σ, τ, zR) = some (some (.int r), ((119, a, b), zx_pk (zK L) 119, σ, τ, zR)) := by
  unfold zb_Machine_aloneIn_62 at H
  rw [zs_istore_n (x := s0) (ls' := [some (.ref 35), some (.int v1), some (.int v2), some (.int s0)]) zd_142_62 (Nat.le_of_ble_eq_true rfl) rfl]
  rw [zs_iload_n (ls := [some (.ref 35), some (.int v1), some (.int v2), some (.int s0)]) zd_142_63 rfl]
  by_cases c5 : s0 = 0
  · rw [if_pos c5] at H
    rw [zp_if_eq_t (x := s0) (t := 77) zd_142_64 rfl c5]
    exact zt_Machine_aloneIn_77 (hk2 := hk2) H
  · rw [if_neg c5] at H
    rw [zp_if_eq_f (x := s0) (t := 77) zd_142_64 rfl c5]
    rw [zs_aload_n (ls := [some (.ref 35), some (.int v1), some (.int v2), some (.int s0)]) zd_142_67 rfl]
    rw [zs_iload_n (ls := [some (.ref 35), some (.int v1), some (.int v2), some (.int s0)]) zd_142_68 rfl]
    obtain ⟨r6, hr6, H⟩ := Option.bind_eq_some_iff.mp H
    rw [zp_callVi (x := r6) (st := [.int v2, .ref 35]) (as := [.ref 35, .int v2]) (rest := []) (e := 1) zd_142_69 rfl (by decide +kernel) (by decide) rfl rfl (Nat.le_of_ble_eq_true rfl) (zx_rcb_ok rfl (show 35 < 119 by decide)) (Nat.le_of_ble_eq_true rfl) rfl (by decide) (zt_Machine_canMove hr6)]
    by_cases c7 : r6 = 0
    · rw [if_pos c7] at H
      rw [zp_if_eq_t (x := r6) (t := 77) zd_142_72 rfl c7]
      exact zt_Machine_aloneIn_77 (hk2 := hk2) H
    · rw [if_neg c7] at H
      rw [zp_if_eq_f (x := r6) (t := 77) zd_142_72 rfl c7]
      rw [zs_iload_n (ls := [some (.ref 35), some (.int v1), some (.int v2), some (.int s0)]) zd_142_75 rfl]
      have H := Option.some.inj H
      subst H
      exact zs_ireturn zd_142_76 rfl
set_option maxRecDepth 20000 in
theorem zt_Machine_aloneIn_61 {a b L N : Nat} {k2 : zS → Int32 → Int32 → Option (Int32)} (hk2 : ∀ {σ : zS} {τ : zT} {v1 : Int32} {v2 : Int32} {o3 : Option Value} {r : Int32}, k2 σ v1 v2 = some r → zx_go 2 142 2 [some (.ref 35), some (.int v1), some (.int v2), o3] [] ((119, a, b), zx_pk (zK L) 119, σ, τ, zR) = some (some (.int r), ((119, a, b), zx_pk (zK L) 119, σ, τ, zR))) {σ : zS} {τ : zT} {v1 : Int32} {v2 : Int32} {o3 : Option Value} {r : Int32} (H : zb_Machine_aloneIn_61 k2 N σ v1 v2 = some r) : zx_go 2 142 61 [some (.ref 35), some (.int v1), some (.int v2), o3] [] ((119, a, b), zx_pk (zK L) 119, σ, τ, zR) = some (some (.int r), ((119, a, b), zx_pk (zK L) 119, σ, τ, zR)) := by
  unfold zb_Machine_aloneIn_61 at H
  rw [zs_iconst (z := 0) zd_142_61 (by decide)]
  exact zt_Machine_aloneIn_62 (hk2 := hk2) H
set_option maxRecDepth 20000 in
theorem zt_Machine_aloneIn_2 {a b L N : Nat} : ∀ {n : Nat} {σ : zS} {τ : zT} {v1 : Int32} {v2 : Int32} {o3 : Option Value} {r : Int32}, zb_Machine_aloneIn_2 N n σ v1 v2 = some r → zx_go 2 142 2 [some (.ref 35), some (.int v1), some (.int v2), o3] [] ((119, a, b), zx_pk (zK L) 119, σ, τ, zR) = some (some (.int r), ((119, a, b), zx_pk (zK L) 119, σ, τ, zR)) := by
  intro n
  induction n with
  | zero =>
    intro _ _ _ _ _ _ H
    cases H
  | succ n ih =>
    intro σ τ v1 v2 o3 r H
    rw [zb_Machine_aloneIn_2] at H
    rw [zs_iload_n (ls := [some (.ref 35), some (.int v1), some (.int v2), o3]) zd_142_2 rfl]
    rw [zs_aload_n (ls := [some (.ref 35), some (.int v1), some (.int v2), o3]) zd_142_3 rfl]
    rw [zs_getR (n := 119) (K := zx_pk (zK L) 119) (ρ := zR) (c := 2) (k := 0) (q := 35) (p := 4) zd_142_4 rfl rfl rfl (by decide) rfl]
    rw [zp_getI (n := 119) (K := zx_pk (zK L) 119) (σ := σ) (c := 6) (k := 2) (q := 4) (v := (σ 4 2)) zd_142_7 rfl rfl rfl (by decide) rfl]
    by_cases c1 : (σ 4 2) ≤ v2
    · rw [if_pos c1] at H
      rw [zp_icmp_ge_t (x := v2) (y := (σ 4 2)) (t := 83) zd_142_10 rfl c1]
      rw [zs_iconst (z := (-1)) zd_142_83 (by decide)]
      have H := Option.some.inj H
      subst H
      exact zs_ireturn zd_142_84 (by decide +kernel)
    · rw [if_neg c1] at H
      rw [zp_icmp_ge_f (x := v2) (y := (σ 4 2)) (t := 83) zd_142_10 rfl c1]
      rw [zs_iload_n (ls := [some (.ref 35), some (.int v1), some (.int v2), o3]) zd_142_13 rfl]
      rw [zs_iconst (z := (-1)) zd_142_14 (by decide)]
      by_cases c2 : v1 = (-1)
      · rw [if_pos c2] at H
        rw [zp_icmp_eq_t (x := v1) (y := (-1)) (t := 83) zd_142_15 rfl c2]
        rw [zs_iconst (z := (-1)) zd_142_83 (by decide)]
        have H := Option.some.inj H
        subst H
        exact zs_ireturn zd_142_84 (by decide +kernel)
      · rw [if_neg c2] at H
        rw [zp_icmp_eq_f (x := v1) (y := (-1)) (t := 83) zd_142_15 rfl c2]
        rw [zs_aload_n (ls := [some (.ref 35), some (.int v1), some (.int v2), o3]) zd_142_18 rfl]
        rw [zs_iload_n (ls := [some (.ref 35), some (.int v1), some (.int v2), o3]) zd_142_19 rfl]
        obtain ⟨r3, hr3, H⟩ := Option.bind_eq_some_iff.mp H
        rw [zp_callVi (x := r3) (st := [.int v2, .ref 35]) (as := [.ref 35, .int v2]) (rest := []) (e := 0) zd_142_20 rfl (by decide +kernel) (by decide) rfl rfl (Nat.le_of_ble_eq_true rfl) (zx_rcb_ok rfl (show 35 < 119 by decide)) (Nat.le_of_ble_eq_true rfl) rfl (by decide) (zt_Machine_wordOf hr3)]
        rw [zs_bipush (z := 17) zd_142_23 (by decide)]
        rw [zp_iushr (x := r3) (y := 17) (z := (zJ_ushr r3 17)) zd_142_25 rfl]
        rw [zs_iconst (z := 1) zd_142_26 (by decide)]
        rw [zp_iand (x := (zJ_ushr r3 17)) (y := 1) (z := ((zJ_ushr r3 17) &&& 1)) zd_142_27 rfl]
        by_cases c4 : ((zJ_ushr r3 17) &&& 1) = 0
        · rw [if_pos c4] at H
          rw [zp_if_eq_t (x := ((zJ_ushr r3 17) &&& 1)) (t := 61) zd_142_28 rfl c4]
          exact zt_Machine_aloneIn_61 (hk2 := ih) H
        · rw [if_neg c4] at H
          rw [zp_if_eq_f (x := ((zJ_ushr r3 17) &&& 1)) (t := 61) zd_142_28 rfl c4]
          rw [zs_aload_n (ls := [some (.ref 35), some (.int v1), some (.int v2), o3]) zd_142_31 rfl]
          rw [zs_iload_n (ls := [some (.ref 35), some (.int v1), some (.int v2), o3]) zd_142_32 rfl]
          obtain ⟨r8, hr8, H⟩ := Option.bind_eq_some_iff.mp H
          rw [zp_callVi (x := r8) (st := [.int v2, .ref 35]) (as := [.ref 35, .int v2]) (rest := []) (e := 0) zd_142_33 rfl (by decide +kernel) (by decide) rfl rfl (Nat.le_of_ble_eq_true rfl) (zx_rcb_ok rfl (show 35 < 119 by decide)) (Nat.le_of_ble_eq_true rfl) rfl (by decide) (zt_Machine_howOf hr8)]
          rw [zs_iconst (z := 1) zd_142_36 (by decide)]
          by_cases c9 : ¬ r8 = 1
          · rw [if_pos c9] at H
            rw [zp_icmp_ne_t (x := r8) (y := 1) (t := 61) zd_142_37 rfl c9]
            exact zt_Machine_aloneIn_61 (hk2 := ih) H
          · rw [if_neg c9] at H
            rw [zp_icmp_ne_f (x := r8) (y := 1) (t := 61) zd_142_37 rfl c9]
            rw [zs_aload_n (ls := [some (.ref 35), some (.int v1), some (.int v2), o3]) zd_142_40 rfl]
            rw [zs_getR (n := 119) (K := zx_pk (zK L) 119) (ρ := zR) (c := 2) (k := 0) (q := 35) (p := 4) zd_142_41 rfl rfl rfl (by decide) rfl]
            rw [zs_getR (n := 119) (K := zx_pk (zK L) 119) (ρ := zR) (c := 6) (k := 14) (q := 4) (p := 12) zd_142_44 rfl rfl rfl (by decide) rfl]
            rw [zs_aload_n (ls := [some (.ref 35), some (.int v1), some (.int v2), o3]) zd_142_47 rfl]
            rw [zs_iload_n (ls := [some (.ref 35), some (.int v1), some (.int v2), o3]) zd_142_48 rfl]
            obtain ⟨r10, hr10, H⟩ := Option.bind_eq_some_iff.mp H
            rw [zp_callVi (x := r10) (st := [.int v2, .ref 35, .ref 12]) (as := [.ref 35, .int v2]) (rest := [.ref 12]) (e := 0) zd_142_49 rfl (by decide +kernel) (by decide) rfl rfl (Nat.le_of_ble_eq_true rfl) (zx_rcb_ok rfl (show 35 < 119 by decide)) (Nat.le_of_ble_eq_true rfl) rfl (by decide) (zt_Machine_slotOf hr10)]
            by_cases c11 : 0 ≤ r10 ∧ r10 < 97
            · rw [if_pos c11] at H
              rw [zp_iaload (n := 119) (K := zx_pk (zK L) 119) (σ := σ) (q := 12) (m := 97) (i := r10) (k := r10.toNatClampNeg) (v := (σ 12 r10.toNatClampNeg)) zd_142_52 rfl (by decide) (zJ_in c11 rfl) rfl rfl]
              rw [zs_iload_n (ls := [some (.ref 35), some (.int v1), some (.int v2), o3]) zd_142_53 rfl]
              by_cases c12 : ¬ (σ 12 r10.toNatClampNeg) = v1
              · rw [if_pos c12] at H
                rw [zp_icmp_ne_t (x := (σ 12 r10.toNatClampNeg)) (y := v1) (t := 61) zd_142_54 rfl c12]
                exact zt_Machine_aloneIn_61 (hk2 := ih) H
              · rw [if_neg c12] at H
                rw [zp_icmp_ne_f (x := (σ 12 r10.toNatClampNeg)) (y := v1) (t := 61) zd_142_54 rfl c12]
                rw [zs_iconst (z := 1) zd_142_57 (by decide)]
                rw [zs_goto (t := 62) zd_142_58 rfl]
                exact zt_Machine_aloneIn_62 (hk2 := ih) H
            · rw [if_neg c11] at H
              cases H
set_option maxRecDepth 20000 in
theorem zt_Machine_aloneIn {a b L N : Nat} {σ : zS} {τ : zT} {x1 : Int32} {r : Int32} (H : zf_Machine_aloneIn N σ x1 = some r) : zx_go 2 142 0 [some (.ref 35), some (.int x1), none, none] [] ((119, a, b), zx_pk (zK L) 119, σ, τ, zR) = some (some (.int r), ((119, a, b), zx_pk (zK L) 119, σ, τ, zR)) := by
  unfold zf_Machine_aloneIn at H
  rw [zs_iconst (z := 0) zd_142_0 (by decide)]
  rw [zs_istore_n (x := 0) (ls' := [some (.ref 35), some (.int x1), some (.int 0), none]) zd_142_1 (Nat.le_of_ble_eq_true rfl) rfl]
  exact zt_Machine_aloneIn_2  H
set_option maxRecDepth 20000 in
theorem zt_Machine_place_30 {a b L : Nat} {σ : zS} {τ : zT} {v1 : Int32} {v2 : Int32} {v3 : Int32} {s0 : Int32} {o4 : Option Value} {o5 : Option Value} {r : zS} (H : zb_Machine_place_30 σ v1 v2 v3 s0 = some r) : zx_go 0 154 30 [some (.ref 35), some (.int v1), some (.int v2), some (.int v3), o4, o5] [.int s0] ((119, a, b), zx_pk (zK L) 119, σ, τ, zR) = some (none, ((119, a, b), zx_pk (zK L) 119, r, τ, zR)) := by
  unfold zb_Machine_place_30 at H
  rw [zs_istore (x := s0) (ls' := [some (.ref 35), some (.int v1), some (.int v2), some (.int v3), (zJ_cl o4), some (.int s0)]) zd_154_30 (Nat.le_of_ble_eq_true rfl) (zJ_s1 (k := 4) (o := o4) rfl)]
  rw [zs_iload_n (ls := [some (.ref 35), some (.int v1), some (.int v2), some (.int v3), (zJ_cl o4), some (.int s0)]) zd_154_32 rfl]
  by_cases c3 : v1 < 0
  · rw [if_pos c3] at H
    rw [zp_if_lt_t (x := v1) (t := 70) zd_154_33 rfl c3]
    have H := Option.some.inj H
    subst H
    exact zs_return zd_154_70 (by decide +kernel)
  · rw [if_neg c3] at H
    rw [zp_if_lt_f (x := v1) (t := 70) zd_154_33 rfl c3]
    rw [zs_iload_n (ls := [some (.ref 35), some (.int v1), some (.int v2), some (.int v3), (zJ_cl o4), some (.int s0)]) zd_154_36 rfl]
    rw [zs_iconst (z := 4) zd_154_37 (by decide)]
    by_cases c4 : 4 ≤ v1
    · rw [if_pos c4] at H
      rw [zp_icmp_ge_t (x := v1) (y := 4) (t := 70) zd_154_38 rfl c4]
      have H := Option.some.inj H
      subst H
      exact zs_return zd_154_70 (by decide +kernel)
    · rw [if_neg c4] at H
      rw [zp_icmp_ge_f (x := v1) (y := 4) (t := 70) zd_154_38 rfl c4]
      rw [zs_aload_n (ls := [some (.ref 35), some (.int v1), some (.int v2), some (.int v3), (zJ_cl o4), some (.int s0)]) zd_154_41 rfl]
      rw [zs_getR (n := 119) (K := zx_pk (zK L) 119) (ρ := zR) (c := 2) (k := 5) (q := 35) (p := 40) zd_154_42 rfl rfl rfl (by decide) rfl]
      rw [zs_iload_n (ls := [some (.ref 35), some (.int v1), some (.int v2), some (.int v3), (zJ_cl o4), some (.int s0)]) zd_154_45 rfl]
      rw [zs_iconst (z := 1) zd_154_46 (by decide)]
      rw [zp_iadd (x := v1) (y := 1) (z := (v1 + 1)) zd_154_47 rfl]
      rw [zs_aload_n (ls := [some (.ref 35), some (.int v1), some (.int v2), some (.int v3), (zJ_cl o4), some (.int s0)]) zd_154_48 rfl]
      rw [zs_getR (n := 119) (K := zx_pk (zK L) 119) (ρ := zR) (c := 2) (k := 5) (q := 35) (p := 40) zd_154_49 rfl rfl rfl (by decide) rfl]
      rw [zs_iload_n (ls := [some (.ref 35), some (.int v1), some (.int v2), some (.int v3), (zJ_cl o4), some (.int s0)]) zd_154_52 rfl]
      rw [zs_iconst (z := 1) zd_154_53 (by decide)]
      rw [zp_iadd (x := v1) (y := 1) (z := (v1 + 1)) zd_154_54 rfl]
      by_cases c5 : 0 ≤ (v1 + 1) ∧ (v1 + 1) < 5
      · rw [if_pos c5] at H
        rw [zp_iaload (n := 119) (K := zx_pk (zK L) 119) (σ := σ) (q := 40) (m := 5) (i := (v1 + 1)) (k := (v1 + 1).toNatClampNeg) (v := (σ 40 (v1 + 1).toNatClampNeg)) zd_154_55 rfl (by decide) (zJ_in c5 rfl) rfl rfl]
        rw [zs_iload (ls := [some (.ref 35), some (.int v1), some (.int v2), some (.int v3), (zJ_cl o4), some (.int s0)]) zd_154_56 rfl]
        rw [zp_iand (x := (σ 40 (v1 + 1).toNatClampNeg)) (y := s0) (z := ((σ 40 (v1 + 1).toNatClampNeg) &&& s0)) zd_154_58 rfl]
        rw [zs_iload_n (ls := [some (.ref 35), some (.int v1), some (.int v2), some (.int v3), (zJ_cl o4), some (.int s0)]) zd_154_59 rfl]
        rw [zs_bipush (z := 9) zd_154_60 (by decide)]
        rw [zp_ishl (x := v2) (y := 9) (z := (zJ_shl v2 9)) zd_154_62 rfl]
        rw [zp_ior (x := ((σ 40 (v1 + 1).toNatClampNeg) &&& s0)) (y := (zJ_shl v2 9)) (z := (((σ 40 (v1 + 1).toNatClampNeg) &&& s0) ||| (zJ_shl v2 9))) zd_154_63 rfl]
        rw [zs_iload_n (ls := [some (.ref 35), some (.int v1), some (.int v2), some (.int v3), (zJ_cl o4), some (.int s0)]) zd_154_64 rfl]
        rw [zs_bipush (z := 14) zd_154_65 (by decide)]
        rw [zp_ishl (x := v3) (y := 14) (z := (zJ_shl v3 14)) zd_154_67 rfl]
        rw [zp_ior (x := (((σ 40 (v1 + 1).toNatClampNeg) &&& s0) ||| (zJ_shl v2 9))) (y := (zJ_shl v3 14)) (z := ((((σ 40 (v1 + 1).toNatClampNeg) &&& s0) ||| (zJ_shl v2 9)) ||| (zJ_shl v3 14))) zd_154_68 rfl]
        by_cases c6 : 0 ≤ (v1 + 1) ∧ (v1 + 1) < 5
        · rw [if_pos c6] at H
          rw [zp_iastore (n := 119) (K := zx_pk (zK L) 119) (q := 40) (m := 5) (i := (v1 + 1)) (k := (v1 + 1).toNatClampNeg) (x := ((((σ 40 (v1 + 1).toNatClampNeg) &&& s0) ||| (zJ_shl v2 9)) ||| (zJ_shl v3 14))) (z := ((((σ 40 (v1 + 1).toNatClampNeg) &&& s0) ||| (zJ_shl v2 9)) ||| (zJ_shl v3 14))) zd_154_69 rfl ⟨by decide, by decide⟩ (zJ_in c6 rfl) rfl rfl]
          have H := Option.some.inj H
          subst H
          exact zs_return zd_154_70 (by decide +kernel)
        · rw [if_neg c6] at H
          cases H
      · rw [if_neg c5] at H
        cases H
set_option maxRecDepth 20000 in
theorem zt_Machine_place_15 {a b L : Nat} {σ : zS} {τ : zT} {v1 : Int32} {v2 : Int32} {v3 : Int32} {s0 : Int32} {o4 : Option Value} {o5 : Option Value} {r : zS} (H : zb_Machine_place_15 σ v1 v2 v3 s0 = some r) : zx_go 0 154 15 [some (.ref 35), some (.int v1), some (.int v2), some (.int v3), o4, o5] [.int s0] ((119, a, b), zx_pk (zK L) 119, σ, τ, zR) = some (none, ((119, a, b), zx_pk (zK L) 119, r, τ, zR)) := by
  unfold zb_Machine_place_15 at H
  rw [zs_istore (x := s0) (ls' := [some (.ref 35), some (.int v1), some (.int v2), some (.int v3), some (.int s0), o5]) zd_154_15 (Nat.le_of_ble_eq_true rfl) rfl]
  rw [zs_iload (ls := [some (.ref 35), some (.int v1), some (.int v2), some (.int v3), some (.int s0), o5]) zd_154_17 rfl]
  by_cases c2 : s0 = 0
  · rw [if_pos c2] at H
    rw [zp_if_eq_t (x := s0) (t := 28) zd_154_19 rfl c2]
    rw [zs_ldc (x := 131583) zd_154_28 rfl]
    exact zt_Machine_place_30  H
  · rw [if_neg c2] at H
    rw [zp_if_eq_f (x := s0) (t := 28) zd_154_19 rfl c2]
    rw [zs_sipush (z := 511) zd_154_22 (by decide)]
    rw [zs_goto (t := 30) zd_154_25 rfl]
    exact zt_Machine_place_30  H
set_option maxRecDepth 20000 in
theorem zt_Machine_place_10 {a b L : Nat} {σ : zS} {τ : zT} {v1 : Int32} {v2 : Int32} {v3 : Int32} {o4 : Option Value} {o5 : Option Value} {r : zS} (H : zb_Machine_place_10 σ v1 v2 v3 = some r) : zx_go 0 154 10 [some (.ref 35), some (.int v1), some (.int v2), some (.int v3), o4, o5] [] ((119, a, b), zx_pk (zK L) 119, σ, τ, zR) = some (none, ((119, a, b), zx_pk (zK L) 119, r, τ, zR)) := by
  unfold zb_Machine_place_10 at H
  rw [zs_iconst (z := 1) zd_154_10 (by decide)]
  rw [zs_goto (t := 15) zd_154_11 rfl]
  exact zt_Machine_place_15  H
set_option maxRecDepth 20000 in
theorem zt_Machine_place {a b L : Nat} {σ : zS} {τ : zT} {x1 : Int32} {x2 : Int32} {x3 : Int32} {r : zS} (H : zf_Machine_place σ x1 x2 x3 = some r) : zx_go 0 154 0 [some (.ref 35), some (.int x1), some (.int x2), some (.int x3), none, none] [] ((119, a, b), zx_pk (zK L) 119, σ, τ, zR) = some (none, ((119, a, b), zx_pk (zK L) 119, r, τ, zR)) := by
  unfold zf_Machine_place at H
  rw [zs_iload_n (ls := [some (.ref 35), some (.int x1), some (.int x2), some (.int x3), none, none]) zd_154_0 rfl]
  rw [zs_iconst (z := 4) zd_154_1 (by decide)]
  by_cases c1 : x3 = 4
  · rw [if_pos c1] at H
    rw [zp_icmp_eq_t (x := x3) (y := 4) (t := 10) zd_154_2 rfl c1]
    exact zt_Machine_place_10  H
  · rw [if_neg c1] at H
    rw [zp_icmp_eq_f (x := x3) (y := 4) (t := 10) zd_154_2 rfl c1]
    rw [zs_iload_n (ls := [some (.ref 35), some (.int x1), some (.int x2), some (.int x3), none, none]) zd_154_5 rfl]
    rw [zs_iconst (z := 5) zd_154_6 (by decide)]
    by_cases c7 : ¬ x3 = 5
    · rw [if_pos c7] at H
      rw [zp_icmp_ne_t (x := x3) (y := 5) (t := 14) zd_154_7 rfl c7]
      rw [zs_iconst (z := 0) zd_154_14 (by decide)]
      exact zt_Machine_place_15  H
    · rw [if_neg c7] at H
      rw [zp_icmp_ne_f (x := x3) (y := 5) (t := 14) zd_154_7 rfl c7]
      exact zt_Machine_place_10  H
set_option maxRecDepth 20000 in
theorem zt_Machine_goTo_49 {a b L : Nat} {σ : zS} {τ : zT} {s0 : Int32} {s1 : Int32} {s2 : Int32} {o0 : Option Value} {o1 : Option Value} {o2 : Option Value} {o3 : Option Value} {r : zS} (H : zb_Machine_goTo_49 σ s0 s1 s2 = some r) : zx_go 1 156 49 [o0, o1, o2, o3] [.int s0, .int s1, .int s2, .ref 35] ((119, a, b), zx_pk (zK L) 119, σ, τ, zR) = some (none, ((119, a, b), zx_pk (zK L) 119, r, τ, zR)) := by
  unfold zb_Machine_goTo_49 at H
  obtain ⟨r4, hr4, H⟩ := Option.bind_eq_some_iff.mp H
  rw [zp_callVv (st := [.int s0, .int s1, .int s2, .ref 35]) (as := [.ref 35, .int s2, .int s1, .int s0]) (rest := []) (e := 0) zd_156_49 rfl (by decide +kernel) (by decide) rfl rfl (Nat.le_of_ble_eq_true rfl) (zx_rcb_ok rfl (show 35 < 119 by decide)) (Nat.le_of_ble_eq_true rfl) rfl (by decide) (zt_Machine_place hr4)]
  have H := Option.some.inj H
  subst H
  exact zs_return zd_156_52 (by decide +kernel)
set_option maxRecDepth 20000 in
theorem zt_Machine_goTo_40 {a b L : Nat} {σ : zS} {τ : zT} {v3 : Int32} {s0 : Int32} {s1 : Int32} {o0 : Option Value} {o1 : Option Value} {o2 : Option Value} {r : zS} (H : zb_Machine_goTo_40 σ v3 s0 s1 = some r) : zx_go 1 156 40 [o0, o1, o2, some (.int v3)] [.int s0, .int s1, .ref 35] ((119, a, b), zx_pk (zK L) 119, σ, τ, zR) = some (none, ((119, a, b), zx_pk (zK L) 119, r, τ, zR)) := by
  unfold zb_Machine_goTo_40 at H
  rw [zs_iload_n (ls := [o0, o1, o2, some (.int v3)]) zd_156_40 rfl]
  by_cases c3 : v3 = 0
  · rw [if_pos c3] at H
    rw [zp_if_eq_t (x := v3) (t := 48) zd_156_41 rfl c3]
    rw [zs_iconst (z := 1) zd_156_48 (by decide)]
    exact zt_Machine_goTo_49  H
  · rw [if_neg c3] at H
    rw [zp_if_eq_f (x := v3) (t := 48) zd_156_41 rfl c3]
    rw [zs_iconst (z := 4) zd_156_44 (by decide)]
    rw [zs_goto (t := 49) zd_156_45 rfl]
    exact zt_Machine_goTo_49  H
set_option maxRecDepth 20000 in
theorem zt_Machine_goTo_21 {a b L : Nat} {σ : zS} {τ : zT} {v1 : Int32} {v2 : Int32} {s0 : Int32} {o3 : Option Value} {r : zS} (H : zb_Machine_goTo_21 σ v1 v2 s0 = some r) : zx_go 1 156 21 [some (.ref 35), some (.int v1), some (.int v2), o3] [.int s0] ((119, a, b), zx_pk (zK L) 119, σ, τ, zR) = some (none, ((119, a, b), zx_pk (zK L) 119, r, τ, zR)) := by
  unfold zb_Machine_goTo_21 at H
  rw [zs_istore_n (x := s0) (ls' := [some (.ref 35), some (.int v1), some (.int v2), some (.int s0)]) zd_156_21 (Nat.le_of_ble_eq_true rfl) rfl]
  rw [zs_aload_n (ls := [some (.ref 35), some (.int v1), some (.int v2), some (.int s0)]) zd_156_22 rfl]
  rw [zs_iload_n (ls := [some (.ref 35), some (.int v1), some (.int v2), some (.int s0)]) zd_156_23 rfl]
  rw [zs_iload_n (ls := [some (.ref 35), some (.int v1), some (.int v2), some (.int s0)]) zd_156_24 rfl]
  by_cases c2 : s0 = 0
  · rw [if_pos c2] at H
    rw [zp_if_eq_t (x := s0) (t := 39) zd_156_25 rfl c2]
    rw [zs_iload_n (ls := [some (.ref 35), some (.int v1), some (.int v2), some (.int s0)]) zd_156_39 rfl]
    exact zt_Machine_goTo_40  H
  · rw [if_neg c2] at H
    rw [zp_if_eq_f (x := s0) (t := 39) zd_156_25 rfl c2]
    rw [zs_aload_n (ls := [some (.ref 35), some (.int v1), some (.int v2), some (.int s0)]) zd_156_28 rfl]
    rw [zs_getR (n := 119) (K := zx_pk (zK L) 119) (ρ := zR) (c := 2) (k := 0) (q := 35) (p := 4) zd_156_29 rfl rfl rfl (by decide) rfl]
    rw [zs_iload_n (ls := [some (.ref 35), some (.int v1), some (.int v2), some (.int s0)]) zd_156_32 rfl]
    obtain ⟨r5, hr5, H⟩ := Option.bind_eq_some_iff.mp H
    rw [zp_callVi (x := r5) (st := [.int v1, .ref 4, .int v1, .ref 35]) (as := [.ref 4, .int v1]) (rest := [.int v1, .ref 35]) (e := 0) zd_156_33 rfl (by decide +kernel) (by decide) rfl rfl (Nat.le_of_ble_eq_true rfl) (zx_rcb_ok rfl (show 4 < 119 by decide)) (Nat.le_of_ble_eq_true rfl) rfl (by decide) (zt_Program_lengthOf hr5)]
    rw [zs_goto (t := 40) zd_156_36 rfl]
    exact zt_Machine_goTo_40  H
set_option maxRecDepth 20000 in
theorem zt_Machine_goTo_16 {a b L : Nat} {σ : zS} {τ : zT} {v1 : Int32} {v2 : Int32} {o3 : Option Value} {r : zS} (H : zb_Machine_goTo_16 σ v1 v2 = some r) : zx_go 1 156 16 [some (.ref 35), some (.int v1), some (.int v2), o3] [] ((119, a, b), zx_pk (zK L) 119, σ, τ, zR) = some (none, ((119, a, b), zx_pk (zK L) 119, r, τ, zR)) := by
  unfold zb_Machine_goTo_16 at H
  rw [zs_iconst (z := 1) zd_156_16 (by decide)]
  rw [zs_goto (t := 21) zd_156_17 rfl]
  exact zt_Machine_goTo_21  H
set_option maxRecDepth 20000 in
theorem zt_Machine_goTo {a b L : Nat} {σ : zS} {τ : zT} {x1 : Int32} {x2 : Int32} {r : zS} (H : zf_Machine_goTo σ x1 x2 = some r) : zx_go 1 156 0 [some (.ref 35), some (.int x1), some (.int x2), none] [] ((119, a, b), zx_pk (zK L) 119, σ, τ, zR) = some (none, ((119, a, b), zx_pk (zK L) 119, r, τ, zR)) := by
  unfold zf_Machine_goTo at H
  rw [zs_iload_n (ls := [some (.ref 35), some (.int x1), some (.int x2), none]) zd_156_0 rfl]
  by_cases c1 : x2 < 0
  · rw [if_pos c1] at H
    rw [zp_if_lt_t (x := x2) (t := 16) zd_156_1 rfl c1]
    exact zt_Machine_goTo_16  H
  · rw [if_neg c1] at H
    rw [zp_if_lt_f (x := x2) (t := 16) zd_156_1 rfl c1]
    rw [zs_iload_n (ls := [some (.ref 35), some (.int x1), some (.int x2), none]) zd_156_4 rfl]
    rw [zs_aload_n (ls := [some (.ref 35), some (.int x1), some (.int x2), none]) zd_156_5 rfl]
    rw [zs_getR (n := 119) (K := zx_pk (zK L) 119) (ρ := zR) (c := 2) (k := 0) (q := 35) (p := 4) zd_156_6 rfl rfl rfl (by decide) rfl]
    rw [zs_iload_n (ls := [some (.ref 35), some (.int x1), some (.int x2), none]) zd_156_9 rfl]
    obtain ⟨r6, hr6, H⟩ := Option.bind_eq_some_iff.mp H
    rw [zp_callVi (x := r6) (st := [.int x1, .ref 4, .int x2]) (as := [.ref 4, .int x1]) (rest := [.int x2]) (e := 0) zd_156_10 rfl (by decide +kernel) (by decide) rfl rfl (Nat.le_of_ble_eq_true rfl) (zx_rcb_ok rfl (show 4 < 119 by decide)) (Nat.le_of_ble_eq_true rfl) rfl (by decide) (zt_Program_lengthOf hr6)]
    by_cases c7 : x2 < r6
    · rw [if_pos c7] at H
      rw [zp_icmp_lt_t (x := x2) (y := r6) (t := 20) zd_156_13 rfl c7]
      rw [zs_iconst (z := 0) zd_156_20 (by decide)]
      exact zt_Machine_goTo_21  H
    · rw [if_neg c7] at H
      rw [zp_icmp_lt_f (x := x2) (y := r6) (t := 20) zd_156_13 rfl c7]
      exact zt_Machine_goTo_16  H
set_option maxRecDepth 20000 in
theorem zt_Machine_stepOf {a b L : Nat} {σ : zS} {τ : zT} {x1 : Int32} {r : Int32} (H : zf_Machine_stepOf σ x1 = some r) : zx_go 1 153 0 [some (.ref 35), some (.int x1)] [] ((119, a, b), zx_pk (zK L) 119, σ, τ, zR) = some (some (.int r), ((119, a, b), zx_pk (zK L) 119, σ, τ, zR)) := by
  unfold zf_Machine_stepOf at H
  rw [zs_aload_n (ls := [some (.ref 35), some (.int x1)]) zd_153_0 rfl]
  rw [zs_iload_n (ls := [some (.ref 35), some (.int x1)]) zd_153_1 rfl]
  obtain ⟨r1, hr1, H⟩ := Option.bind_eq_some_iff.mp H
  rw [zp_callVi (x := r1) (st := [.int x1, .ref 35]) (as := [.ref 35, .int x1]) (rest := []) (e := 0) zd_153_2 rfl (by decide +kernel) (by decide) rfl rfl (Nat.le_of_ble_eq_true rfl) (zx_rcb_ok rfl (show 35 < 119 by decide)) (Nat.le_of_ble_eq_true rfl) rfl (by decide) (zt_Machine_wordOf hr1)]
  rw [zs_bipush (z := 9) zd_153_5 (by decide)]
  rw [zp_iushr (x := r1) (y := 9) (z := (zJ_ushr r1 9)) zd_153_7 rfl]
  rw [zs_bipush (z := 31) zd_153_8 (by decide)]
  rw [zp_iand (x := (zJ_ushr r1 9)) (y := 31) (z := ((zJ_ushr r1 9) &&& 31)) zd_153_10 rfl]
  have H := Option.some.inj H
  subst H
  exact zs_ireturn zd_153_11 rfl
set_option maxRecDepth 20000 in
theorem zt_Machine_localOf {a b L : Nat} {σ : zS} {τ : zT} {x1 : Int32} {x2 : Int32} {r : Int32} (H : zf_Machine_localOf σ x1 x2 = some r) : zx_go 0 149 0 [some (.ref 35), some (.int x1), some (.int x2)] [] ((119, a, b), zx_pk (zK L) 119, σ, τ, zR) = some (some (.int r), ((119, a, b), zx_pk (zK L) 119, σ, τ, zR)) := by
  unfold zf_Machine_localOf at H
  rw [zs_iload_n (ls := [some (.ref 35), some (.int x1), some (.int x2)]) zd_149_0 rfl]
  by_cases c1 : x1 < 0
  · rw [if_pos c1] at H
    rw [zp_if_lt_t (x := x1) (t := 27) zd_149_1 rfl c1]
    rw [zs_iconst (z := 0) zd_149_27 (by decide)]
    have H := Option.some.inj H
    subst H
    exact zs_ireturn zd_149_28 (by decide +kernel)
  · rw [if_neg c1] at H
    rw [zp_if_lt_f (x := x1) (t := 27) zd_149_1 rfl c1]
    rw [zs_iload_n (ls := [some (.ref 35), some (.int x1), some (.int x2)]) zd_149_4 rfl]
    rw [zs_iconst (z := 4) zd_149_5 (by decide)]
    by_cases c2 : 4 ≤ x1
    · rw [if_pos c2] at H
      rw [zp_icmp_ge_t (x := x1) (y := 4) (t := 27) zd_149_6 rfl c2]
      rw [zs_iconst (z := 0) zd_149_27 (by decide)]
      have H := Option.some.inj H
      subst H
      exact zs_ireturn zd_149_28 (by decide +kernel)
    · rw [if_neg c2] at H
      rw [zp_icmp_ge_f (x := x1) (y := 4) (t := 27) zd_149_6 rfl c2]
      rw [zs_aload_n (ls := [some (.ref 35), some (.int x1), some (.int x2)]) zd_149_9 rfl]
      rw [zs_getR (n := 119) (K := zx_pk (zK L) 119) (ρ := zR) (c := 2) (k := 4) (q := 35) (p := 39) zd_149_10 rfl rfl rfl (by decide) rfl]
      rw [zs_iload_n (ls := [some (.ref 35), some (.int x1), some (.int x2)]) zd_149_13 rfl]
      rw [zs_iconst (z := 1) zd_149_14 (by decide)]
      rw [zp_iadd (x := x1) (y := 1) (z := (x1 + 1)) zd_149_15 rfl]
      by_cases c3 : 0 ≤ (x1 + 1) ∧ (x1 + 1) < 5
      · rw [if_pos c3] at H
        rw [zp_iaload (n := 119) (K := zx_pk (zK L) 119) (σ := σ) (q := 39) (m := 5) (i := (x1 + 1)) (k := (x1 + 1).toNatClampNeg) (v := (σ 39 (x1 + 1).toNatClampNeg)) zd_149_16 rfl (by decide) (zJ_in c3 rfl) rfl rfl]
        rw [zs_iconst (z := 3) zd_149_17 (by decide)]
        rw [zs_iload_n (ls := [some (.ref 35), some (.int x1), some (.int x2)]) zd_149_18 rfl]
        rw [zp_imul (x := 3) (y := x2) (z := (3 * x2)) zd_149_19 rfl]
        rw [zp_iushr (x := (σ 39 (x1 + 1).toNatClampNeg)) (y := (3 * x2)) (z := (zJ_ushr (σ 39 (x1 + 1).toNatClampNeg) (3 * x2))) zd_149_20 rfl]
        rw [zs_bipush (z := 7) zd_149_21 (by decide)]
        rw [zp_iand (x := (zJ_ushr (σ 39 (x1 + 1).toNatClampNeg) (3 * x2))) (y := 7) (z := ((zJ_ushr (σ 39 (x1 + 1).toNatClampNeg) (3 * x2)) &&& 7)) zd_149_23 rfl]
        rw [zs_goto (t := 28) zd_149_24 rfl]
        have H := Option.some.inj H
        subst H
        exact zs_ireturn zd_149_28 rfl
      · rw [if_neg c3] at H
        cases H
set_option maxRecDepth 20000 in
theorem zt_Machine_valueOf {a b L : Nat} {σ : zS} {τ : zT} {x1 : Int32} {x2 : Int32} {r : Int32} (H : zf_Machine_valueOf σ x1 x2 = some r) : zx_go 1 148 0 [some (.ref 35), some (.int x1), some (.int x2)] [] ((119, a, b), zx_pk (zK L) 119, σ, τ, zR) = some (some (.int r), ((119, a, b), zx_pk (zK L) 119, σ, τ, zR)) := by
  unfold zf_Machine_valueOf at H
  rw [zs_iload_n (ls := [some (.ref 35), some (.int x1), some (.int x2)]) zd_148_0 rfl]
  rw [zs_bipush (z := 8) zd_148_1 (by decide)]
  by_cases c1 : 8 ≤ x2
  · rw [if_pos c1] at H
    rw [zp_icmp_ge_t (x := x2) (y := 8) (t := 10) zd_148_3 rfl c1]
    rw [zs_aload_n (ls := [some (.ref 35), some (.int x1), some (.int x2)]) zd_148_10 rfl]
    rw [zs_iload_n (ls := [some (.ref 35), some (.int x1), some (.int x2)]) zd_148_11 rfl]
    rw [zs_iload_n (ls := [some (.ref 35), some (.int x1), some (.int x2)]) zd_148_12 rfl]
    rw [zs_bipush (z := 8) zd_148_13 (by decide)]
    rw [zp_isub (x := x2) (y := 8) (z := (x2 - 8)) zd_148_15 rfl]
    obtain ⟨r2, hr2, H⟩ := Option.bind_eq_some_iff.mp H
    rw [zp_callVi (x := r2) (st := [.int (x2 - 8), .int x1, .ref 35]) (as := [.ref 35, .int x1, .int (x2 - 8)]) (rest := []) (e := 0) zd_148_16 rfl (by decide +kernel) (by decide) rfl rfl (Nat.le_of_ble_eq_true rfl) (zx_rcb_ok rfl (show 35 < 119 by decide)) (Nat.le_of_ble_eq_true rfl) rfl (by decide) (zt_Machine_localOf hr2)]
    have H := Option.some.inj H
    subst H
    exact zs_ireturn zd_148_19 rfl
  · rw [if_neg c1] at H
    rw [zp_icmp_ge_f (x := x2) (y := 8) (t := 10) zd_148_3 rfl c1]
    rw [zs_iload_n (ls := [some (.ref 35), some (.int x1), some (.int x2)]) zd_148_6 rfl]
    rw [zs_goto (t := 19) zd_148_7 rfl]
    have H := Option.some.inj H
    subst H
    exact zs_ireturn zd_148_19 rfl
set_option maxRecDepth 20000 in
theorem zt_Machine_holds {a b L : Nat} {σ : zS} {τ : zT} {x1 : Int32} {x2 : Int32} {r : Int32} (H : zf_Machine_holds σ x1 x2 = some r) : zx_go 2 151 0 [some (.ref 35), some (.int x1), some (.int x2), none, none] [] ((119, a, b), zx_pk (zK L) 119, σ, τ, zR) = some (some (.int r), ((119, a, b), zx_pk (zK L) 119, σ, τ, zR)) := by
  unfold zf_Machine_holds at H
  rw [zs_aload_n (ls := [some (.ref 35), some (.int x1), some (.int x2), none, none]) zd_151_0 rfl]
  rw [zs_iload_n (ls := [some (.ref 35), some (.int x1), some (.int x2), none, none]) zd_151_1 rfl]
  rw [zs_aload_n (ls := [some (.ref 35), some (.int x1), some (.int x2), none, none]) zd_151_2 rfl]
  rw [zs_getR (n := 119) (K := zx_pk (zK L) 119) (ρ := zR) (c := 2) (k := 0) (q := 35) (p := 4) zd_151_3 rfl rfl rfl (by decide) rfl]
  rw [zs_getR (n := 119) (K := zx_pk (zK L) 119) (ρ := zR) (c := 6) (k := 16) (q := 4) (p := 14) zd_151_6 rfl rfl rfl (by decide) rfl]
  rw [zs_iload_n (ls := [some (.ref 35), some (.int x1), some (.int x2), none, none]) zd_151_9 rfl]
  by_cases c1 : 0 ≤ x2 ∧ x2 < 97
  · rw [if_pos c1] at H
    rw [zp_iaload (n := 119) (K := zx_pk (zK L) 119) (σ := σ) (q := 14) (m := 97) (i := x2) (k := x2.toNatClampNeg) (v := (σ 14 x2.toNatClampNeg)) zd_151_10 rfl (by decide) (zJ_in c1 rfl) rfl rfl]
    obtain ⟨r2, hr2, H⟩ := Option.bind_eq_some_iff.mp H
    rw [zp_callVi (x := r2) (st := [.int (σ 14 x2.toNatClampNeg), .int x1, .ref 35]) (as := [.ref 35, .int x1, .int (σ 14 x2.toNatClampNeg)]) (rest := []) (e := 1) zd_151_11 rfl (by decide +kernel) (by decide) rfl rfl (Nat.le_of_ble_eq_true rfl) (zx_rcb_ok rfl (show 35 < 119 by decide)) (Nat.le_of_ble_eq_true rfl) rfl (by decide) (zt_Machine_valueOf hr2)]
    rw [zs_istore_n (x := r2) (ls' := [some (.ref 35), some (.int x1), some (.int x2), some (.int r2), none]) zd_151_14 (Nat.le_of_ble_eq_true rfl) rfl]
    rw [zs_aload_n (ls := [some (.ref 35), some (.int x1), some (.int x2), some (.int r2), none]) zd_151_15 rfl]
    rw [zs_iload_n (ls := [some (.ref 35), some (.int x1), some (.int x2), some (.int r2), none]) zd_151_16 rfl]
    rw [zs_aload_n (ls := [some (.ref 35), some (.int x1), some (.int x2), some (.int r2), none]) zd_151_17 rfl]
    rw [zs_getR (n := 119) (K := zx_pk (zK L) 119) (ρ := zR) (c := 2) (k := 0) (q := 35) (p := 4) zd_151_18 rfl rfl rfl (by decide) rfl]
    rw [zs_getR (n := 119) (K := zx_pk (zK L) 119) (ρ := zR) (c := 6) (k := 18) (q := 4) (p := 16) zd_151_21 rfl rfl rfl (by decide) rfl]
    rw [zs_iload_n (ls := [some (.ref 35), some (.int x1), some (.int x2), some (.int r2), none]) zd_151_24 rfl]
    by_cases c3 : 0 ≤ x2 ∧ x2 < 97
    · rw [if_pos c3] at H
      rw [zp_iaload (n := 119) (K := zx_pk (zK L) 119) (σ := σ) (q := 16) (m := 97) (i := x2) (k := x2.toNatClampNeg) (v := (σ 16 x2.toNatClampNeg)) zd_151_25 rfl (by decide) (zJ_in c3 rfl) rfl rfl]
      obtain ⟨r4, hr4, H⟩ := Option.bind_eq_some_iff.mp H
      rw [zp_callVi (x := r4) (st := [.int (σ 16 x2.toNatClampNeg), .int x1, .ref 35]) (as := [.ref 35, .int x1, .int (σ 16 x2.toNatClampNeg)]) (rest := []) (e := 1) zd_151_26 rfl (by decide +kernel) (by decide) rfl rfl (Nat.le_of_ble_eq_true rfl) (zx_rcb_ok rfl (show 35 < 119 by decide)) (Nat.le_of_ble_eq_true rfl) rfl (by decide) (zt_Machine_valueOf hr4)]
      rw [zs_istore (x := r4) (ls' := [some (.ref 35), some (.int x1), some (.int x2), some (.int r2), some (.int r4)]) zd_151_29 (Nat.le_of_ble_eq_true rfl) rfl]
      rw [zs_aload_n (ls := [some (.ref 35), some (.int x1), some (.int x2), some (.int r2), some (.int r4)]) zd_151_31 rfl]
      rw [zs_getR (n := 119) (K := zx_pk (zK L) 119) (ρ := zR) (c := 2) (k := 0) (q := 35) (p := 4) zd_151_32 rfl rfl rfl (by decide) rfl]
      rw [zs_getR (n := 119) (K := zx_pk (zK L) 119) (ρ := zR) (c := 6) (k := 17) (q := 4) (p := 15) zd_151_35 rfl rfl rfl (by decide) rfl]
      rw [zs_iload_n (ls := [some (.ref 35), some (.int x1), some (.int x2), some (.int r2), some (.int r4)]) zd_151_38 rfl]
      by_cases c5 : 0 ≤ x2 ∧ x2 < 97
      · rw [if_pos c5] at H
        rw [zp_iaload (n := 119) (K := zx_pk (zK L) 119) (σ := σ) (q := 15) (m := 97) (i := x2) (k := x2.toNatClampNeg) (v := (σ 15 x2.toNatClampNeg)) zd_151_39 rfl (by decide) (zJ_in c5 rfl) rfl rfl]
        by_cases c6 : (σ 15 x2.toNatClampNeg) = 60
        · rw [if_pos c6] at H
          rw [zs_lookup (x := (σ 15 x2.toNatClampNeg)) (off := 60) (t := 100) zd_151_40 (by decide) (by rw [c6]; decide) rfl]
          rw [zs_iload_n (ls := [some (.ref 35), some (.int x1), some (.int x2), some (.int r2), some (.int r4)]) zd_151_100 rfl]
          rw [zs_iload (ls := [some (.ref 35), some (.int x1), some (.int x2), some (.int r2), some (.int r4)]) zd_151_101 rfl]
          by_cases c12 : r4 ≤ r2
          · rw [if_pos c12] at H
            rw [zp_icmp_ge_t (x := r2) (y := r4) (t := 110) zd_151_103 rfl c12]
            rw [zs_iconst (z := 0) zd_151_110 (by decide)]
            have H := Option.some.inj H
            subst H
            exact zs_ireturn zd_151_111 (by decide +kernel)
          · rw [if_neg c12] at H
            rw [zp_icmp_ge_f (x := r2) (y := r4) (t := 110) zd_151_103 rfl c12]
            rw [zs_iconst (z := 1) zd_151_106 (by decide)]
            rw [zs_goto (t := 111) zd_151_107 rfl]
            have H := Option.some.inj H
            subst H
            exact zs_ireturn zd_151_111 (by decide +kernel)
        · rw [if_neg c6] at H
          by_cases c7 : (σ 15 x2.toNatClampNeg) = 256
          · rw [if_pos c7] at H
            rw [zs_lookup (x := (σ 15 x2.toNatClampNeg)) (off := 36) (t := 76) zd_151_40 (by decide) (by rw [c7]; decide) rfl]
            rw [zs_iload_n (ls := [some (.ref 35), some (.int x1), some (.int x2), some (.int r2), some (.int r4)]) zd_151_76 rfl]
            rw [zs_iload (ls := [some (.ref 35), some (.int x1), some (.int x2), some (.int r2), some (.int r4)]) zd_151_77 rfl]
            by_cases c11 : ¬ r2 = r4
            · rw [if_pos c11] at H
              rw [zp_icmp_ne_t (x := r2) (y := r4) (t := 86) zd_151_79 rfl c11]
              rw [zs_iconst (z := 0) zd_151_86 (by decide)]
              have H := Option.some.inj H
              subst H
              exact zs_ireturn zd_151_87 (by decide +kernel)
            · rw [if_neg c11] at H
              rw [zp_icmp_ne_f (x := r2) (y := r4) (t := 86) zd_151_79 rfl c11]
              rw [zs_iconst (z := 1) zd_151_82 (by decide)]
              rw [zs_goto (t := 87) zd_151_83 rfl]
              have H := Option.some.inj H
              subst H
              exact zs_ireturn zd_151_87 (by decide +kernel)
          · rw [if_neg c7] at H
            by_cases c8 : (σ 15 x2.toNatClampNeg) = 257
            · rw [if_pos c8] at H
              rw [zs_lookup (x := (σ 15 x2.toNatClampNeg)) (off := 48) (t := 88) zd_151_40 (by decide) (by rw [c8]; decide) rfl]
              rw [zs_iload_n (ls := [some (.ref 35), some (.int x1), some (.int x2), some (.int r2), some (.int r4)]) zd_151_88 rfl]
              rw [zs_iload (ls := [some (.ref 35), some (.int x1), some (.int x2), some (.int r2), some (.int r4)]) zd_151_89 rfl]
              by_cases c10 : r2 = r4
              · rw [if_pos c10] at H
                rw [zp_icmp_eq_t (x := r2) (y := r4) (t := 98) zd_151_91 rfl c10]
                rw [zs_iconst (z := 0) zd_151_98 (by decide)]
                have H := Option.some.inj H
                subst H
                exact zs_ireturn zd_151_99 (by decide +kernel)
              · rw [if_neg c10] at H
                rw [zp_icmp_eq_f (x := r2) (y := r4) (t := 98) zd_151_91 rfl c10]
                rw [zs_iconst (z := 1) zd_151_94 (by decide)]
                rw [zs_goto (t := 99) zd_151_95 rfl]
                have H := Option.some.inj H
                subst H
                exact zs_ireturn zd_151_99 (by decide +kernel)
            · rw [if_neg c8] at H
              rw [zs_lookup (x := (σ 15 x2.toNatClampNeg)) (off := 72) (t := 112) zd_151_40 (by decide) (Eq.trans (if_neg (zJ_ne (x := (σ 15 x2.toNatClampNeg)) (z := 60) (a := 60) c6 rfl)) (Eq.trans (if_neg (zJ_ne (x := (σ 15 x2.toNatClampNeg)) (z := 256) (a := 256) c7 rfl)) (Eq.trans (if_neg (zJ_ne (x := (σ 15 x2.toNatClampNeg)) (z := 257) (a := 257) c8 rfl)) rfl))) rfl]
              rw [zs_iload_n (ls := [some (.ref 35), some (.int x1), some (.int x2), some (.int r2), some (.int r4)]) zd_151_112 rfl]
              rw [zs_iload (ls := [some (.ref 35), some (.int x1), some (.int x2), some (.int r2), some (.int r4)]) zd_151_113 rfl]
              by_cases c9 : r2 ≤ r4
              · rw [if_pos c9] at H
                rw [zp_icmp_le_t (x := r2) (y := r4) (t := 122) zd_151_115 rfl c9]
                rw [zs_iconst (z := 0) zd_151_122 (by decide)]
                have H := Option.some.inj H
                subst H
                exact zs_ireturn zd_151_123 (by decide +kernel)
              · rw [if_neg c9] at H
                rw [zp_icmp_le_f (x := r2) (y := r4) (t := 122) zd_151_115 rfl c9]
                rw [zs_iconst (z := 1) zd_151_118 (by decide)]
                rw [zs_goto (t := 123) zd_151_119 rfl]
                have H := Option.some.inj H
                subst H
                exact zs_ireturn zd_151_123 (by decide +kernel)
      · rw [if_neg c5] at H
        cases H
    · rw [if_neg c3] at H
      cases H
  · rw [if_neg c1] at H
    cases H
set_option maxRecDepth 20000 in
theorem zt_Machine_startThread {a b L : Nat} {σ : zS} {τ : zT} {x1 : Int32} {r : Int32 × zS} (H : zf_Machine_startThread σ x1 = some r) : zx_go 2 155 0 [some (.ref 35), some (.int x1)] [] ((119, a, b), zx_pk (zK L) 119, σ, τ, zR) = some (some (.int r.1), ((119, a, b), zx_pk (zK L) 119, r.2, τ, zR)) := by
  unfold zf_Machine_startThread at H
  rw [zs_aload_n (ls := [some (.ref 35), some (.int x1)]) zd_155_0 rfl]
  rw [zs_iload_n (ls := [some (.ref 35), some (.int x1)]) zd_155_1 rfl]
  obtain ⟨r1, hr1, H⟩ := Option.bind_eq_some_iff.mp H
  rw [zp_callVi (x := r1) (st := [.int x1, .ref 35]) (as := [.ref 35, .int x1]) (rest := []) (e := 0) zd_155_2 rfl (by decide +kernel) (by decide) rfl rfl (Nat.le_of_ble_eq_true rfl) (zx_rcb_ok rfl (show 35 < 119 by decide)) (Nat.le_of_ble_eq_true rfl) rfl (by decide) (zt_Machine_howOf hr1)]
  by_cases c2 : r1 = 0
  · rw [if_pos c2] at H
    rw [zp_if_eq_t (x := r1) (t := 10) zd_155_5 rfl c2]
    rw [zs_aload_n (ls := [some (.ref 35), some (.int x1)]) zd_155_10 rfl]
    rw [zs_iload_n (ls := [some (.ref 35), some (.int x1)]) zd_155_11 rfl]
    rw [zs_iconst (z := 0) zd_155_12 (by decide)]
    obtain ⟨r3, hr3, H⟩ := Option.bind_eq_some_iff.mp H
    rw [zp_callVv (st := [.int 0, .int x1, .ref 35]) (as := [.ref 35, .int x1, .int 0]) (rest := []) (e := 1) zd_155_13 rfl (by decide +kernel) (by decide) rfl rfl (Nat.le_of_ble_eq_true rfl) (zx_rcb_ok rfl (show 35 < 119 by decide)) (Nat.le_of_ble_eq_true rfl) rfl (by decide) (zt_Machine_goTo hr3)]
    rw [zs_iconst (z := 1) zd_155_16 (by decide)]
    have H := Option.some.inj H
    subst H
    exact zs_ireturn zd_155_17 (by decide +kernel)
  · rw [if_neg c2] at H
    rw [zp_if_eq_f (x := r1) (t := 10) zd_155_5 rfl c2]
    rw [zs_iconst (z := 0) zd_155_8 (by decide)]
    have H := Option.some.inj H
    subst H
    exact zs_ireturn zd_155_9 (by decide +kernel)
set_option maxRecDepth 20000 in
theorem zt_Machine_signal_121 {a b L N : Nat} {k49 : zS → Int32 → Int32 → Int32 → Int32 → Option (Int32 × zS)} (hk49 : ∀ {σ : zS} {τ : zT} {v3 : Int32} {v4 : Int32} {v5 : Int32} {v6 : Int32} {o1 : Option Value} {o2 : Option Value} {r : Int32 × zS}, k49 σ v3 v4 v5 v6 = some r → zx_go 2 152 49 [some (.ref 35), o1, o2, some (.int v3), some (.int v4), some (.int v5), some (.int v6)] [] ((119, a, b), zx_pk (zK L) 119, σ, τ, zR) = some (some (.int r.1), ((119, a, b), zx_pk (zK L) 119, r.2, τ, zR))) {σ : zS} {τ : zT} {v3 : Int32} {v4 : Int32} {v5 : Int32} {v6 : Int32} {o1 : Option Value} {o2 : Option Value} {r : Int32 × zS} (H : zb_Machine_signal_121 k49 N σ v3 v4 v5 v6 = some r) : zx_go 2 152 121 [some (.ref 35), o1, o2, some (.int v3), some (.int v4), some (.int v5), some (.int v6)] [] ((119, a, b), zx_pk (zK L) 119, σ, τ, zR) = some (some (.int r.1), ((119, a, b), zx_pk (zK L) 119, r.2, τ, zR)) := by
  unfold zb_Machine_signal_121 at H
  rw [zs_iinc (ls := [some (.ref 35), o1, o2, some (.int v3), some (.int v4), some (.int v5), some (.int v6)]) (x := v6) (z := (v6 + 1)) (ls' := [some (.ref 35), o1, o2, some (.int v3), some (.int v4), some (.int v5), some (.int (v6 + 1))]) zd_152_121 rfl rfl rfl]
  rw [zs_goto (t := 49) zd_152_124 rfl]
  exact hk49 H
set_option maxRecDepth 20000 in
theorem zt_Machine_signal_119 {a b L N : Nat} {k49 : zS → Int32 → Int32 → Int32 → Int32 → Option (Int32 × zS)} (hk49 : ∀ {σ : zS} {τ : zT} {v3 : Int32} {v4 : Int32} {v5 : Int32} {v6 : Int32} {o1 : Option Value} {o2 : Option Value} {r : Int32 × zS}, k49 σ v3 v4 v5 v6 = some r → zx_go 2 152 49 [some (.ref 35), o1, o2, some (.int v3), some (.int v4), some (.int v5), some (.int v6)] [] ((119, a, b), zx_pk (zK L) 119, σ, τ, zR) = some (some (.int r.1), ((119, a, b), zx_pk (zK L) 119, r.2, τ, zR))) {σ : zS} {τ : zT} {v3 : Int32} {v4 : Int32} {v6 : Int32} {s0 : Int32} {o1 : Option Value} {o2 : Option Value} {o5 : Option Value} {r : Int32 × zS} (H : zb_Machine_signal_119 k49 N σ v3 v4 v6 s0 = some r) : zx_go 2 152 119 [some (.ref 35), o1, o2, some (.int v3), some (.int v4), o5, some (.int v6)] [.int s0] ((119, a, b), zx_pk (zK L) 119, σ, τ, zR) = some (some (.int r.1), ((119, a, b), zx_pk (zK L) 119, r.2, τ, zR)) := by
  unfold zb_Machine_signal_119 at H
  rw [zs_istore (x := s0) (ls' := [some (.ref 35), o1, o2, some (.int v3), some (.int v4), some (.int s0), some (.int v6)]) zd_152_119 (Nat.le_of_ble_eq_true rfl) rfl]
  exact zt_Machine_signal_121 (hk49 := hk49) H
set_option maxRecDepth 20000 in
theorem zt_Machine_signal_49 {a b L N : Nat} : ∀ {n : Nat} {σ : zS} {τ : zT} {v3 : Int32} {v4 : Int32} {v5 : Int32} {v6 : Int32} {o1 : Option Value} {o2 : Option Value} {r : Int32 × zS}, zb_Machine_signal_49 N n σ v3 v4 v5 v6 = some r → zx_go 2 152 49 [some (.ref 35), o1, o2, some (.int v3), some (.int v4), some (.int v5), some (.int v6)] [] ((119, a, b), zx_pk (zK L) 119, σ, τ, zR) = some (some (.int r.1), ((119, a, b), zx_pk (zK L) 119, r.2, τ, zR)) := by
  intro n
  induction n with
  | zero =>
    intro _ _ _ _ _ _ _ _ _ H
    cases H
  | succ n ih =>
    intro σ τ v3 v4 v5 v6 o1 o2 r H
    rw [zb_Machine_signal_49] at H
    rw [zs_iload (ls := [some (.ref 35), o1, o2, some (.int v3), some (.int v4), some (.int v5), some (.int v6)]) zd_152_49 rfl]
    rw [zs_aload_n (ls := [some (.ref 35), o1, o2, some (.int v3), some (.int v4), some (.int v5), some (.int v6)]) zd_152_51 rfl]
    rw [zs_getR (n := 119) (K := zx_pk (zK L) 119) (ρ := zR) (c := 2) (k := 0) (q := 35) (p := 4) zd_152_52 rfl rfl rfl (by decide) rfl]
    rw [zp_getI (n := 119) (K := zx_pk (zK L) 119) (σ := σ) (c := 6) (k := 2) (q := 4) (v := (σ 4 2)) zd_152_55 rfl rfl rfl (by decide) rfl]
    by_cases c6 : (σ 4 2) ≤ v6
    · rw [if_pos c6] at H
      rw [zp_icmp_ge_t (x := v6) (y := (σ 4 2)) (t := 127) zd_152_58 rfl c6]
      rw [zs_iconst (z := 1) zd_152_127 (by decide)]
      have H := Option.some.inj H
      subst H
      exact zs_ireturn zd_152_128 (by decide +kernel)
    · rw [if_neg c6] at H
      rw [zp_icmp_ge_f (x := v6) (y := (σ 4 2)) (t := 127) zd_152_58 rfl c6]
      rw [zs_iload (ls := [some (.ref 35), o1, o2, some (.int v3), some (.int v4), some (.int v5), some (.int v6)]) zd_152_61 rfl]
      by_cases c7 : v5 = 0
      · rw [if_pos c7] at H
        rw [zp_if_eq_t (x := v5) (t := 127) zd_152_63 rfl c7]
        rw [zs_iconst (z := 1) zd_152_127 (by decide)]
        have H := Option.some.inj H
        subst H
        exact zs_ireturn zd_152_128 (by decide +kernel)
      · rw [if_neg c7] at H
        rw [zp_if_eq_f (x := v5) (t := 127) zd_152_63 rfl c7]
        rw [zs_aload_n (ls := [some (.ref 35), o1, o2, some (.int v3), some (.int v4), some (.int v5), some (.int v6)]) zd_152_66 rfl]
        rw [zs_iload (ls := [some (.ref 35), o1, o2, some (.int v3), some (.int v4), some (.int v5), some (.int v6)]) zd_152_67 rfl]
        obtain ⟨r8, hr8, H⟩ := Option.bind_eq_some_iff.mp H
        rw [zp_callVi (x := r8) (st := [.int v6, .ref 35]) (as := [.ref 35, .int v6]) (rest := []) (e := 0) zd_152_69 rfl (by decide +kernel) (by decide) rfl rfl (Nat.le_of_ble_eq_true rfl) (zx_rcb_ok rfl (show 35 < 119 by decide)) (Nat.le_of_ble_eq_true rfl) rfl (by decide) (zt_Machine_howOf hr8)]
        rw [zs_iconst (z := 2) zd_152_72 (by decide)]
        by_cases c9 : ¬ r8 = 2
        · rw [if_pos c9] at H
          rw [zp_icmp_ne_t (x := r8) (y := 2) (t := 121) zd_152_73 rfl c9]
          exact zt_Machine_signal_121 (hk49 := ih) H
        · rw [if_neg c9] at H
          rw [zp_icmp_ne_f (x := r8) (y := 2) (t := 121) zd_152_73 rfl c9]
          rw [zs_aload_n (ls := [some (.ref 35), o1, o2, some (.int v3), some (.int v4), some (.int v5), some (.int v6)]) zd_152_76 rfl]
          rw [zs_getR (n := 119) (K := zx_pk (zK L) 119) (ρ := zR) (c := 2) (k := 0) (q := 35) (p := 4) zd_152_77 rfl rfl rfl (by decide) rfl]
          rw [zs_getR (n := 119) (K := zx_pk (zK L) 119) (ρ := zR) (c := 6) (k := 10) (q := 4) (p := 8) zd_152_80 rfl rfl rfl (by decide) rfl]
          rw [zs_aload_n (ls := [some (.ref 35), o1, o2, some (.int v3), some (.int v4), some (.int v5), some (.int v6)]) zd_152_83 rfl]
          rw [zs_iload (ls := [some (.ref 35), o1, o2, some (.int v3), some (.int v4), some (.int v5), some (.int v6)]) zd_152_84 rfl]
          obtain ⟨r10, hr10, H⟩ := Option.bind_eq_some_iff.mp H
          rw [zp_callVi (x := r10) (st := [.int v6, .ref 35, .ref 8]) (as := [.ref 35, .int v6]) (rest := [.ref 8]) (e := 0) zd_152_86 rfl (by decide +kernel) (by decide) rfl rfl (Nat.le_of_ble_eq_true rfl) (zx_rcb_ok rfl (show 35 < 119 by decide)) (Nat.le_of_ble_eq_true rfl) rfl (by decide) (zt_Machine_slotOf hr10)]
          by_cases c11 : 0 ≤ r10 ∧ r10 < 97
          · rw [if_pos c11] at H
            rw [zp_iaload (n := 119) (K := zx_pk (zK L) 119) (σ := σ) (q := 8) (m := 97) (i := r10) (k := r10.toNatClampNeg) (v := (σ 8 r10.toNatClampNeg)) zd_152_89 rfl (by decide) (zJ_in c11 rfl) rfl rfl]
            rw [zs_iload_n (ls := [some (.ref 35), o1, o2, some (.int v3), some (.int v4), some (.int v5), some (.int v6)]) zd_152_90 rfl]
            by_cases c12 : ¬ (σ 8 r10.toNatClampNeg) = v3
            · rw [if_pos c12] at H
              rw [zp_icmp_ne_t (x := (σ 8 r10.toNatClampNeg)) (y := v3) (t := 121) zd_152_91 rfl c12]
              exact zt_Machine_signal_121 (hk49 := ih) H
            · rw [if_neg c12] at H
              rw [zp_icmp_ne_f (x := (σ 8 r10.toNatClampNeg)) (y := v3) (t := 121) zd_152_91 rfl c12]
              rw [zs_aload_n (ls := [some (.ref 35), o1, o2, some (.int v3), some (.int v4), some (.int v5), some (.int v6)]) zd_152_94 rfl]
              rw [zs_iload (ls := [some (.ref 35), o1, o2, some (.int v3), some (.int v4), some (.int v5), some (.int v6)]) zd_152_95 rfl]
              rw [zs_aload_n (ls := [some (.ref 35), o1, o2, some (.int v3), some (.int v4), some (.int v5), some (.int v6)]) zd_152_97 rfl]
              rw [zs_iload (ls := [some (.ref 35), o1, o2, some (.int v3), some (.int v4), some (.int v5), some (.int v6)]) zd_152_98 rfl]
              obtain ⟨r13, hr13, H⟩ := Option.bind_eq_some_iff.mp H
              rw [zp_callVi (x := r13) (st := [.int v6, .ref 35, .int v6, .ref 35]) (as := [.ref 35, .int v6]) (rest := [.int v6, .ref 35]) (e := 1) zd_152_100 rfl (by decide +kernel) (by decide) rfl rfl (Nat.le_of_ble_eq_true rfl) (zx_rcb_ok rfl (show 35 < 119 by decide)) (Nat.le_of_ble_eq_true rfl) rfl (by decide) (zt_Machine_stepOf hr13)]
              rw [zs_iconst (z := 3) zd_152_103 (by decide)]
              obtain ⟨r14, hr14, H⟩ := Option.bind_eq_some_iff.mp H
              rw [zp_callVv (st := [.int 3, .int r13, .int v6, .ref 35]) (as := [.ref 35, .int v6, .int r13, .int 3]) (rest := []) (e := 0) zd_152_104 rfl (by decide +kernel) (by decide) rfl rfl (Nat.le_of_ble_eq_true rfl) (zx_rcb_ok rfl (show 35 < 119 by decide)) (Nat.le_of_ble_eq_true rfl) rfl (by decide) (zt_Machine_place hr14)]
              rw [zs_iload (ls := [some (.ref 35), o1, o2, some (.int v3), some (.int v4), some (.int v5), some (.int v6)]) zd_152_107 rfl]
              rw [zs_bipush (z := 9) zd_152_109 (by decide)]
              by_cases c15 : ¬ v4 = 9
              · rw [if_pos c15] at H
                rw [zp_icmp_ne_t (x := v4) (y := 9) (t := 118) zd_152_111 rfl c15]
                rw [zs_iconst (z := 0) zd_152_118 (by decide)]
                exact zt_Machine_signal_119 (hk49 := ih) H
              · rw [if_neg c15] at H
                rw [zp_icmp_ne_f (x := v4) (y := 9) (t := 118) zd_152_111 rfl c15]
                rw [zs_iconst (z := 1) zd_152_114 (by decide)]
                rw [zs_goto (t := 119) zd_152_115 rfl]
                exact zt_Machine_signal_119 (hk49 := ih) H
          · rw [if_neg c11] at H
            cases H
set_option maxRecDepth 20000 in
theorem zt_Machine_signal_44 {a b L N : Nat} {σ : zS} {τ : zT} {v3 : Int32} {v4 : Int32} {s0 : Int32} {o1 : Option Value} {o2 : Option Value} {o5 : Option Value} {o6 : Option Value} {r : Int32 × zS} (H : zb_Machine_signal_44 N σ v3 v4 s0 = some r) : zx_go 2 152 44 [some (.ref 35), o1, o2, some (.int v3), some (.int v4), o5, o6] [.int s0] ((119, a, b), zx_pk (zK L) 119, σ, τ, zR) = some (some (.int r.1), ((119, a, b), zx_pk (zK L) 119, r.2, τ, zR)) := by
  unfold zb_Machine_signal_44 at H
  rw [zs_istore (x := s0) (ls' := [some (.ref 35), o1, o2, some (.int v3), some (.int v4), some (.int s0), o6]) zd_152_44 (Nat.le_of_ble_eq_true rfl) rfl]
  rw [zs_iconst (z := 0) zd_152_46 (by decide)]
  rw [zs_istore (x := 0) (ls' := [some (.ref 35), o1, o2, some (.int v3), some (.int v4), some (.int s0), some (.int 0)]) zd_152_47 (Nat.le_of_ble_eq_true rfl) rfl]
  exact zt_Machine_signal_49  H
set_option maxRecDepth 20000 in
theorem zt_Machine_signal {a b L N : Nat} {σ : zS} {τ : zT} {x1 : Int32} {x2 : Int32} {r : Int32 × zS} (H : zf_Machine_signal N σ x1 x2 = some r) : zx_go 2 152 0 [some (.ref 35), some (.int x1), some (.int x2), none, none, none, none] [] ((119, a, b), zx_pk (zK L) 119, σ, τ, zR) = some (some (.int r.1), ((119, a, b), zx_pk (zK L) 119, r.2, τ, zR)) := by
  unfold zf_Machine_signal at H
  rw [zs_aload_n (ls := [some (.ref 35), some (.int x1), some (.int x2), none, none, none, none]) zd_152_0 rfl]
  rw [zs_getR (n := 119) (K := zx_pk (zK L) 119) (ρ := zR) (c := 2) (k := 0) (q := 35) (p := 4) zd_152_1 rfl rfl rfl (by decide) rfl]
  rw [zs_getR (n := 119) (K := zx_pk (zK L) 119) (ρ := zR) (c := 6) (k := 10) (q := 4) (p := 8) zd_152_4 rfl rfl rfl (by decide) rfl]
  rw [zs_iload_n (ls := [some (.ref 35), some (.int x1), some (.int x2), none, none, none, none]) zd_152_7 rfl]
  by_cases c1 : 0 ≤ x2 ∧ x2 < 97
  · rw [if_pos c1] at H
    rw [zp_iaload (n := 119) (K := zx_pk (zK L) 119) (σ := σ) (q := 8) (m := 97) (i := x2) (k := x2.toNatClampNeg) (v := (σ 8 x2.toNatClampNeg)) zd_152_8 rfl (by decide) (zJ_in c1 rfl) rfl rfl]
    rw [zs_istore_n (x := (σ 8 x2.toNatClampNeg)) (ls' := [some (.ref 35), some (.int x1), some (.int x2), some (.int (σ 8 x2.toNatClampNeg)), none, none, none]) zd_152_9 (Nat.le_of_ble_eq_true rfl) rfl]
    rw [zs_aload_n (ls := [some (.ref 35), some (.int x1), some (.int x2), some (.int (σ 8 x2.toNatClampNeg)), none, none, none]) zd_152_10 rfl]
    rw [zs_getR (n := 119) (K := zx_pk (zK L) 119) (ρ := zR) (c := 2) (k := 0) (q := 35) (p := 4) zd_152_11 rfl rfl rfl (by decide) rfl]
    rw [zs_getR (n := 119) (K := zx_pk (zK L) 119) (ρ := zR) (c := 6) (k := 9) (q := 4) (p := 7) zd_152_14 rfl rfl rfl (by decide) rfl]
    rw [zs_iload_n (ls := [some (.ref 35), some (.int x1), some (.int x2), some (.int (σ 8 x2.toNatClampNeg)), none, none, none]) zd_152_17 rfl]
    by_cases c2 : 0 ≤ x2 ∧ x2 < 97
    · rw [if_pos c2] at H
      rw [zp_iaload (n := 119) (K := zx_pk (zK L) 119) (σ := σ) (q := 7) (m := 97) (i := x2) (k := x2.toNatClampNeg) (v := (σ 7 x2.toNatClampNeg)) zd_152_18 rfl (by decide) (zJ_in c2 rfl) rfl rfl]
      rw [zs_istore (x := (σ 7 x2.toNatClampNeg)) (ls' := [some (.ref 35), some (.int x1), some (.int x2), some (.int (σ 8 x2.toNatClampNeg)), some (.int (σ 7 x2.toNatClampNeg)), none, none]) zd_152_19 (Nat.le_of_ble_eq_true rfl) rfl]
      rw [zs_aload_n (ls := [some (.ref 35), some (.int x1), some (.int x2), some (.int (σ 8 x2.toNatClampNeg)), some (.int (σ 7 x2.toNatClampNeg)), none, none]) zd_152_21 rfl]
      rw [zs_iload_n (ls := [some (.ref 35), some (.int x1), some (.int x2), some (.int (σ 8 x2.toNatClampNeg)), some (.int (σ 7 x2.toNatClampNeg)), none, none]) zd_152_22 rfl]
      obtain ⟨r3, hr3, H⟩ := Option.bind_eq_some_iff.mp H
      rw [zp_callVi (x := r3) (st := [.int (σ 8 x2.toNatClampNeg), .ref 35]) (as := [.ref 35, .int (σ 8 x2.toNatClampNeg)]) (rest := []) (e := 0) zd_152_23 rfl (by decide +kernel) (by decide) rfl rfl (Nat.le_of_ble_eq_true rfl) (zx_rcb_ok rfl (show 35 < 119 by decide)) (Nat.le_of_ble_eq_true rfl) rfl (by decide) (zt_Machine_ownerOf hr3)]
      rw [zs_iload_n (ls := [some (.ref 35), some (.int x1), some (.int x2), some (.int (σ 8 x2.toNatClampNeg)), some (.int (σ 7 x2.toNatClampNeg)), none, none]) zd_152_26 rfl]
      by_cases c4 : r3 = x1
      · rw [if_pos c4] at H
        rw [zp_icmp_eq_t (x := r3) (y := x1) (t := 32) zd_152_27 rfl c4]
        rw [zs_iload (ls := [some (.ref 35), some (.int x1), some (.int x2), some (.int (σ 8 x2.toNatClampNeg)), some (.int (σ 7 x2.toNatClampNeg)), none, none]) zd_152_32 rfl]
        rw [zs_bipush (z := 7) zd_152_34 (by decide)]
        by_cases c5 : (σ 7 x2.toNatClampNeg) = 7
        · rw [if_pos c5] at H
          rw [zp_icmp_eq_t (x := (σ 7 x2.toNatClampNeg)) (y := 7) (t := 43) zd_152_36 rfl c5]
          rw [zs_iconst (z := 0) zd_152_43 (by decide)]
          exact zt_Machine_signal_44  H
        · rw [if_neg c5] at H
          rw [zp_icmp_eq_f (x := (σ 7 x2.toNatClampNeg)) (y := 7) (t := 43) zd_152_36 rfl c5]
          rw [zs_iconst (z := 1) zd_152_39 (by decide)]
          rw [zs_goto (t := 44) zd_152_40 rfl]
          exact zt_Machine_signal_44  H
      · rw [if_neg c4] at H
        rw [zp_icmp_eq_f (x := r3) (y := x1) (t := 32) zd_152_27 rfl c4]
        rw [zs_iconst (z := 0) zd_152_30 (by decide)]
        have H := Option.some.inj H
        subst H
        exact zs_ireturn zd_152_31 (by decide +kernel)
    · rw [if_neg c2] at H
      cases H
  · rw [if_neg c1] at H
    cases H
set_option maxRecDepth 20000 in
theorem zt_Machine_valueOfField {a b L : Nat} {σ : zS} {τ : zT} {x1 : Int32} {r : Int32} (H : zf_Machine_valueOfField σ x1 = some r) : zx_go 0 150 0 [some (.ref 35), some (.int x1)] [] ((119, a, b), zx_pk (zK L) 119, σ, τ, zR) = some (some (.int r), ((119, a, b), zx_pk (zK L) 119, σ, τ, zR)) := by
  unfold zf_Machine_valueOfField at H
  rw [zs_aload_n (ls := [some (.ref 35), some (.int x1)]) zd_150_0 rfl]
  rw [zs_getR (n := 119) (K := zx_pk (zK L) 119) (ρ := zR) (c := 2) (k := 4) (q := 35) (p := 39) zd_150_1 rfl rfl rfl (by decide) rfl]
  rw [zs_iconst (z := 0) zd_150_4 (by decide)]
  rw [zp_iaload (n := 119) (K := zx_pk (zK L) 119) (σ := σ) (q := 39) (m := 5) (i := 0) (k := 0) (v := (σ 39 0)) zd_150_5 rfl (by decide) (by decide) (by decide) rfl]
  rw [zs_iconst (z := 3) zd_150_6 (by decide)]
  rw [zs_iload_n (ls := [some (.ref 35), some (.int x1)]) zd_150_7 rfl]
  rw [zp_imul (x := 3) (y := x1) (z := (3 * x1)) zd_150_8 rfl]
  rw [zp_iushr (x := (σ 39 0)) (y := (3 * x1)) (z := (zJ_ushr (σ 39 0) (3 * x1))) zd_150_9 rfl]
  rw [zs_bipush (z := 7) zd_150_10 (by decide)]
  rw [zp_iand (x := (zJ_ushr (σ 39 0) (3 * x1))) (y := 7) (z := ((zJ_ushr (σ 39 0) (3 * x1)) &&& 7)) zd_150_12 rfl]
  have H := Option.some.inj H
  subst H
  exact zs_ireturn zd_150_13 rfl
set_option maxRecDepth 20000 in
theorem zt_Machine_work_150 {a b L : Nat} {σ : zS} {τ : zT} {v4 : Int32} {v6 : Int32} {s0 : Int32} {s1 : Int32} {o1 : Option Value} {o2 : Option Value} {o3 : Option Value} {o5 : Option Value} {o7 : Option Value} {r : zS} (H : zb_Machine_work_150 σ v4 v6 s0 s1 = some r) : zx_go 2 147 150 [some (.ref 35), o1, o2, o3, some (.int v4), o5, some (.int v6), o7] [.int s0, .int s1] ((119, a, b), zx_pk (zK L) 119, σ, τ, zR) = some (none, ((119, a, b), zx_pk (zK L) 119, r, τ, zR)) := by
  unfold zb_Machine_work_150 at H
  rw [zp_imul (x := s1) (y := s0) (z := (s1 * s0)) zd_147_150 rfl]
  rw [zs_istore (x := (s1 * s0)) (ls' := [some (.ref 35), o1, o2, o3, some (.int v4), o5, some (.int v6), some (.int (s1 * s0))]) zd_147_151 (Nat.le_of_ble_eq_true rfl) rfl]
  rw [zs_iload (ls := [some (.ref 35), o1, o2, o3, some (.int v4), o5, some (.int v6), some (.int (s1 * s0))]) zd_147_153 rfl]
  by_cases c14 : v6 < 0
  · rw [if_pos c14] at H
    rw [zp_if_lt_t (x := v6) (t := 195) zd_147_155 rfl c14]
    have H := Option.some.inj H
    subst H
    exact zs_return zd_147_195 (by decide +kernel)
  · rw [if_neg c14] at H
    rw [zp_if_lt_f (x := v6) (t := 195) zd_147_155 rfl c14]
    rw [zs_iload (ls := [some (.ref 35), o1, o2, o3, some (.int v4), o5, some (.int v6), some (.int (s1 * s0))]) zd_147_158 rfl]
    rw [zs_iconst (z := 5) zd_147_160 (by decide)]
    by_cases c15 : 5 ≤ v6
    · rw [if_pos c15] at H
      rw [zp_icmp_ge_t (x := v6) (y := 5) (t := 195) zd_147_161 rfl c15]
      have H := Option.some.inj H
      subst H
      exact zs_return zd_147_195 (by decide +kernel)
    · rw [if_neg c15] at H
      rw [zp_icmp_ge_f (x := v6) (y := 5) (t := 195) zd_147_161 rfl c15]
      rw [zs_aload_n (ls := [some (.ref 35), o1, o2, o3, some (.int v4), o5, some (.int v6), some (.int (s1 * s0))]) zd_147_164 rfl]
      rw [zs_getR (n := 119) (K := zx_pk (zK L) 119) (ρ := zR) (c := 2) (k := 5) (q := 35) (p := 40) zd_147_165 rfl rfl rfl (by decide) rfl]
      rw [zs_iload (ls := [some (.ref 35), o1, o2, o3, some (.int v4), o5, some (.int v6), some (.int (s1 * s0))]) zd_147_168 rfl]
      rw [zs_aload_n (ls := [some (.ref 35), o1, o2, o3, some (.int v4), o5, some (.int v6), some (.int (s1 * s0))]) zd_147_170 rfl]
      rw [zs_getR (n := 119) (K := zx_pk (zK L) 119) (ρ := zR) (c := 2) (k := 5) (q := 35) (p := 40) zd_147_171 rfl rfl rfl (by decide) rfl]
      rw [zs_iload (ls := [some (.ref 35), o1, o2, o3, some (.int v4), o5, some (.int v6), some (.int (s1 * s0))]) zd_147_174 rfl]
      by_cases c16 : 0 ≤ v6 ∧ v6 < 5
      · rw [if_pos c16] at H
        rw [zp_iaload (n := 119) (K := zx_pk (zK L) 119) (σ := σ) (q := 40) (m := 5) (i := v6) (k := v6.toNatClampNeg) (v := (σ 40 v6.toNatClampNeg)) zd_147_176 rfl (by decide) (zJ_in c16 rfl) rfl rfl]
        rw [zs_bipush (z := 7) zd_147_177 (by decide)]
        rw [zs_iload (ls := [some (.ref 35), o1, o2, o3, some (.int v4), o5, some (.int v6), some (.int (s1 * s0))]) zd_147_179 rfl]
        rw [zp_ishl (x := 7) (y := (s1 * s0)) (z := (zJ_shl 7 (s1 * s0))) zd_147_181 rfl]
        rw [zs_iconst (z := (-1)) zd_147_182 (by decide)]
        rw [zp_ixor (x := (zJ_shl 7 (s1 * s0))) (y := (-1)) (z := ((zJ_shl 7 (s1 * s0)) ^^^ (-1))) zd_147_183 rfl]
        rw [zp_iand (x := (σ 40 v6.toNatClampNeg)) (y := ((zJ_shl 7 (s1 * s0)) ^^^ (-1))) (z := ((σ 40 v6.toNatClampNeg) &&& ((zJ_shl 7 (s1 * s0)) ^^^ (-1)))) zd_147_184 rfl]
        rw [zs_iload (ls := [some (.ref 35), o1, o2, o3, some (.int v4), o5, some (.int v6), some (.int (s1 * s0))]) zd_147_185 rfl]
        rw [zs_bipush (z := 7) zd_147_187 (by decide)]
        rw [zp_iand (x := v4) (y := 7) (z := (v4 &&& 7)) zd_147_189 rfl]
        rw [zs_iload (ls := [some (.ref 35), o1, o2, o3, some (.int v4), o5, some (.int v6), some (.int (s1 * s0))]) zd_147_190 rfl]
        rw [zp_ishl (x := (v4 &&& 7)) (y := (s1 * s0)) (z := (zJ_shl (v4 &&& 7) (s1 * s0))) zd_147_192 rfl]
        rw [zp_ior (x := ((σ 40 v6.toNatClampNeg) &&& ((zJ_shl 7 (s1 * s0)) ^^^ (-1)))) (y := (zJ_shl (v4 &&& 7) (s1 * s0))) (z := (((σ 40 v6.toNatClampNeg) &&& ((zJ_shl 7 (s1 * s0)) ^^^ (-1))) ||| (zJ_shl (v4 &&& 7) (s1 * s0)))) zd_147_193 rfl]
        by_cases c17 : 0 ≤ v6 ∧ v6 < 5
        · rw [if_pos c17] at H
          rw [zp_iastore (n := 119) (K := zx_pk (zK L) 119) (q := 40) (m := 5) (i := v6) (k := v6.toNatClampNeg) (x := (((σ 40 v6.toNatClampNeg) &&& ((zJ_shl 7 (s1 * s0)) ^^^ (-1))) ||| (zJ_shl (v4 &&& 7) (s1 * s0)))) (z := (((σ 40 v6.toNatClampNeg) &&& ((zJ_shl 7 (s1 * s0)) ^^^ (-1))) ||| (zJ_shl (v4 &&& 7) (s1 * s0)))) zd_147_194 rfl ⟨by decide, by decide⟩ (zJ_in c17 rfl) rfl rfl]
          have H := Option.some.inj H
          subst H
          exact zs_return zd_147_195 (by decide +kernel)
        · rw [if_neg c17] at H
          cases H
      · rw [if_neg c16] at H
        cases H
set_option maxRecDepth 20000 in
theorem zt_Machine_work_121 {a b L : Nat} {σ : zS} {τ : zT} {v2 : Int32} {v3 : Int32} {v4 : Int32} {s0 : Int32} {o1 : Option Value} {o5 : Option Value} {o6 : Option Value} {o7 : Option Value} {r : zS} (H : zb_Machine_work_121 σ v2 v3 v4 s0 = some r) : zx_go 2 147 121 [some (.ref 35), o1, some (.int v2), some (.int v3), some (.int v4), o5, o6, o7] [.int s0] ((119, a, b), zx_pk (zK L) 119, σ, τ, zR) = some (none, ((119, a, b), zx_pk (zK L) 119, r, τ, zR)) := by
  unfold zb_Machine_work_121 at H
  rw [zs_istore (x := s0) (ls' := [some (.ref 35), o1, some (.int v2), some (.int v3), some (.int v4), (zJ_cl o5), some (.int s0), o7]) zd_147_121 (Nat.le_of_ble_eq_true rfl) (zJ_s1 (k := 5) (o := o5) rfl)]
  rw [zs_iconst (z := 3) zd_147_123 (by decide)]
  rw [zs_iload_n (ls := [some (.ref 35), o1, some (.int v2), some (.int v3), some (.int v4), (zJ_cl o5), some (.int s0), o7]) zd_147_124 rfl]
  rw [zs_iconst (z := 1) zd_147_125 (by decide)]
  by_cases c12 : ¬ v3 = 1
  · rw [if_pos c12] at H
    rw [zp_icmp_ne_t (x := v3) (y := 1) (t := 141) zd_147_126 rfl c12]
    rw [zs_aload_n (ls := [some (.ref 35), o1, some (.int v2), some (.int v3), some (.int v4), (zJ_cl o5), some (.int s0), o7]) zd_147_141 rfl]
    rw [zs_getR (n := 119) (K := zx_pk (zK L) 119) (ρ := zR) (c := 2) (k := 0) (q := 35) (p := 4) zd_147_142 rfl rfl rfl (by decide) rfl]
    rw [zs_getR (n := 119) (K := zx_pk (zK L) 119) (ρ := zR) (c := 6) (k := 15) (q := 4) (p := 13) zd_147_145 rfl rfl rfl (by decide) rfl]
    rw [zs_iload_n (ls := [some (.ref 35), o1, some (.int v2), some (.int v3), some (.int v4), (zJ_cl o5), some (.int s0), o7]) zd_147_148 rfl]
    by_cases c13 : 0 ≤ v2 ∧ v2 < 97
    · rw [if_pos c13] at H
      rw [zp_iaload (n := 119) (K := zx_pk (zK L) 119) (σ := σ) (q := 13) (m := 97) (i := v2) (k := v2.toNatClampNeg) (v := (σ 13 v2.toNatClampNeg)) zd_147_149 rfl (by decide) (zJ_in c13 rfl) rfl rfl]
      exact zt_Machine_work_150  H
    · rw [if_neg c13] at H
      cases H
  · rw [if_neg c12] at H
    rw [zp_icmp_ne_f (x := v3) (y := 1) (t := 141) zd_147_126 rfl c12]
    rw [zs_aload_n (ls := [some (.ref 35), o1, some (.int v2), some (.int v3), some (.int v4), (zJ_cl o5), some (.int s0), o7]) zd_147_129 rfl]
    rw [zs_getR (n := 119) (K := zx_pk (zK L) 119) (ρ := zR) (c := 2) (k := 0) (q := 35) (p := 4) zd_147_130 rfl rfl rfl (by decide) rfl]
    rw [zs_getR (n := 119) (K := zx_pk (zK L) 119) (ρ := zR) (c := 6) (k := 10) (q := 4) (p := 8) zd_147_133 rfl rfl rfl (by decide) rfl]
    rw [zs_iload_n (ls := [some (.ref 35), o1, some (.int v2), some (.int v3), some (.int v4), (zJ_cl o5), some (.int s0), o7]) zd_147_136 rfl]
    by_cases c18 : 0 ≤ v2 ∧ v2 < 97
    · rw [if_pos c18] at H
      rw [zp_iaload (n := 119) (K := zx_pk (zK L) 119) (σ := σ) (q := 8) (m := 97) (i := v2) (k := v2.toNatClampNeg) (v := (σ 8 v2.toNatClampNeg)) zd_147_137 rfl (by decide) (zJ_in c18 rfl) rfl rfl]
      rw [zs_goto (t := 150) zd_147_138 rfl]
      exact zt_Machine_work_150  H
    · rw [if_neg c18] at H
      cases H
set_option maxRecDepth 20000 in
theorem zt_Machine_work_109 {a b L : Nat} {σ : zS} {τ : zT} {v1 : Int32} {v2 : Int32} {v3 : Int32} {v4 : Int32} {o5 : Option Value} {o6 : Option Value} {o7 : Option Value} {r : zS} (H : zb_Machine_work_109 σ v1 v2 v3 v4 = some r) : zx_go 2 147 109 [some (.ref 35), some (.int v1), some (.int v2), some (.int v3), some (.int v4), o5, o6, o7] [] ((119, a, b), zx_pk (zK L) 119, σ, τ, zR) = some (none, ((119, a, b), zx_pk (zK L) 119, r, τ, zR)) := by
  unfold zb_Machine_work_109 at H
  rw [zs_iload_n (ls := [some (.ref 35), some (.int v1), some (.int v2), some (.int v3), some (.int v4), o5, o6, o7]) zd_147_109 rfl]
  rw [zs_iconst (z := 1) zd_147_110 (by decide)]
  by_cases c11 : ¬ v3 = 1
  · rw [if_pos c11] at H
    rw [zp_icmp_ne_t (x := v3) (y := 1) (t := 118) zd_147_111 rfl c11]
    rw [zs_iload_n (ls := [some (.ref 35), some (.int v1), some (.int v2), some (.int v3), some (.int v4), o5, o6, o7]) zd_147_118 rfl]
    rw [zs_iconst (z := 1) zd_147_119 (by decide)]
    rw [zp_iadd (x := v1) (y := 1) (z := (v1 + 1)) zd_147_120 rfl]
    exact zt_Machine_work_121  H
  · rw [if_neg c11] at H
    rw [zp_icmp_ne_f (x := v3) (y := 1) (t := 118) zd_147_111 rfl c11]
    rw [zs_iconst (z := 0) zd_147_114 (by decide)]
    rw [zs_goto (t := 121) zd_147_115 rfl]
    exact zt_Machine_work_121  H
set_option maxRecDepth 20000 in
theorem zt_Machine_work {a b L : Nat} {σ : zS} {τ : zT} {x1 : Int32} {x2 : Int32} {r : zS} (H : zf_Machine_work σ x1 x2 = some r) : zx_go 2 147 0 [some (.ref 35), some (.int x1), some (.int x2), none, none, none, none, none] [] ((119, a, b), zx_pk (zK L) 119, σ, τ, zR) = some (none, ((119, a, b), zx_pk (zK L) 119, r, τ, zR)) := by
  unfold zf_Machine_work at H
  rw [zs_aload_n (ls := [some (.ref 35), some (.int x1), some (.int x2), none, none, none, none, none]) zd_147_0 rfl]
  rw [zs_getR (n := 119) (K := zx_pk (zK L) 119) (ρ := zR) (c := 2) (k := 0) (q := 35) (p := 4) zd_147_1 rfl rfl rfl (by decide) rfl]
  rw [zs_getR (n := 119) (K := zx_pk (zK L) 119) (ρ := zR) (c := 6) (k := 9) (q := 4) (p := 7) zd_147_4 rfl rfl rfl (by decide) rfl]
  rw [zs_iload_n (ls := [some (.ref 35), some (.int x1), some (.int x2), none, none, none, none, none]) zd_147_7 rfl]
  by_cases c1 : 0 ≤ x2 ∧ x2 < 97
  · rw [if_pos c1] at H
    rw [zp_iaload (n := 119) (K := zx_pk (zK L) 119) (σ := σ) (q := 7) (m := 97) (i := x2) (k := x2.toNatClampNeg) (v := (σ 7 x2.toNatClampNeg)) zd_147_8 rfl (by decide) (zJ_in c1 rfl) rfl rfl]
    rw [zs_istore_n (x := (σ 7 x2.toNatClampNeg)) (ls' := [some (.ref 35), some (.int x1), some (.int x2), some (.int (σ 7 x2.toNatClampNeg)), none, none, none, none]) zd_147_9 (Nat.le_of_ble_eq_true rfl) rfl]
    rw [zs_aload_n (ls := [some (.ref 35), some (.int x1), some (.int x2), some (.int (σ 7 x2.toNatClampNeg)), none, none, none, none]) zd_147_10 rfl]
    rw [zs_iload_n (ls := [some (.ref 35), some (.int x1), some (.int x2), some (.int (σ 7 x2.toNatClampNeg)), none, none, none, none]) zd_147_11 rfl]
    rw [zs_aload_n (ls := [some (.ref 35), some (.int x1), some (.int x2), some (.int (σ 7 x2.toNatClampNeg)), none, none, none, none]) zd_147_12 rfl]
    rw [zs_getR (n := 119) (K := zx_pk (zK L) 119) (ρ := zR) (c := 2) (k := 0) (q := 35) (p := 4) zd_147_13 rfl rfl rfl (by decide) rfl]
    rw [zs_getR (n := 119) (K := zx_pk (zK L) 119) (ρ := zR) (c := 6) (k := 16) (q := 4) (p := 14) zd_147_16 rfl rfl rfl (by decide) rfl]
    rw [zs_iload_n (ls := [some (.ref 35), some (.int x1), some (.int x2), some (.int (σ 7 x2.toNatClampNeg)), none, none, none, none]) zd_147_19 rfl]
    by_cases c2 : 0 ≤ x2 ∧ x2 < 97
    · rw [if_pos c2] at H
      rw [zp_iaload (n := 119) (K := zx_pk (zK L) 119) (σ := σ) (q := 14) (m := 97) (i := x2) (k := x2.toNatClampNeg) (v := (σ 14 x2.toNatClampNeg)) zd_147_20 rfl (by decide) (zJ_in c2 rfl) rfl rfl]
      obtain ⟨r3, hr3, H⟩ := Option.bind_eq_some_iff.mp H
      rw [zp_callVi (x := r3) (st := [.int (σ 14 x2.toNatClampNeg), .int x1, .ref 35]) (as := [.ref 35, .int x1, .int (σ 14 x2.toNatClampNeg)]) (rest := []) (e := 1) zd_147_21 rfl (by decide +kernel) (by decide) rfl rfl (Nat.le_of_ble_eq_true rfl) (zx_rcb_ok rfl (show 35 < 119 by decide)) (Nat.le_of_ble_eq_true rfl) rfl (by decide) (zt_Machine_valueOf hr3)]
      rw [zs_istore (x := r3) (ls' := [some (.ref 35), some (.int x1), some (.int x2), some (.int (σ 7 x2.toNatClampNeg)), some (.int r3), none, none, none]) zd_147_24 (Nat.le_of_ble_eq_true rfl) rfl]
      rw [zs_aload_n (ls := [some (.ref 35), some (.int x1), some (.int x2), some (.int (σ 7 x2.toNatClampNeg)), some (.int r3), none, none, none]) zd_147_26 rfl]
      rw [zs_iload_n (ls := [some (.ref 35), some (.int x1), some (.int x2), some (.int (σ 7 x2.toNatClampNeg)), some (.int r3), none, none, none]) zd_147_27 rfl]
      rw [zs_aload_n (ls := [some (.ref 35), some (.int x1), some (.int x2), some (.int (σ 7 x2.toNatClampNeg)), some (.int r3), none, none, none]) zd_147_28 rfl]
      rw [zs_getR (n := 119) (K := zx_pk (zK L) 119) (ρ := zR) (c := 2) (k := 0) (q := 35) (p := 4) zd_147_29 rfl rfl rfl (by decide) rfl]
      rw [zs_getR (n := 119) (K := zx_pk (zK L) 119) (ρ := zR) (c := 6) (k := 18) (q := 4) (p := 16) zd_147_32 rfl rfl rfl (by decide) rfl]
      rw [zs_iload_n (ls := [some (.ref 35), some (.int x1), some (.int x2), some (.int (σ 7 x2.toNatClampNeg)), some (.int r3), none, none, none]) zd_147_35 rfl]
      by_cases c4 : 0 ≤ x2 ∧ x2 < 97
      · rw [if_pos c4] at H
        rw [zp_iaload (n := 119) (K := zx_pk (zK L) 119) (σ := σ) (q := 16) (m := 97) (i := x2) (k := x2.toNatClampNeg) (v := (σ 16 x2.toNatClampNeg)) zd_147_36 rfl (by decide) (zJ_in c4 rfl) rfl rfl]
        obtain ⟨r5, hr5, H⟩ := Option.bind_eq_some_iff.mp H
        rw [zp_callVi (x := r5) (st := [.int (σ 16 x2.toNatClampNeg), .int x1, .ref 35]) (as := [.ref 35, .int x1, .int (σ 16 x2.toNatClampNeg)]) (rest := []) (e := 1) zd_147_37 rfl (by decide +kernel) (by decide) rfl rfl (Nat.le_of_ble_eq_true rfl) (zx_rcb_ok rfl (show 35 < 119 by decide)) (Nat.le_of_ble_eq_true rfl) rfl (by decide) (zt_Machine_valueOf hr5)]
        rw [zs_istore (x := r5) (ls' := [some (.ref 35), some (.int x1), some (.int x2), some (.int (σ 7 x2.toNatClampNeg)), some (.int r3), some (.int r5), none, none]) zd_147_40 (Nat.le_of_ble_eq_true rfl) rfl]
        rw [zs_iload_n (ls := [some (.ref 35), some (.int x1), some (.int x2), some (.int (σ 7 x2.toNatClampNeg)), some (.int r3), some (.int r5), none, none]) zd_147_42 rfl]
        by_cases c6 : ¬ (σ 7 x2.toNatClampNeg) = 0
        · rw [if_pos c6] at H
          rw [zp_if_ne_t (x := (σ 7 x2.toNatClampNeg)) (t := 64) zd_147_43 rfl c6]
          rw [zs_aload_n (ls := [some (.ref 35), some (.int x1), some (.int x2), some (.int (σ 7 x2.toNatClampNeg)), some (.int r3), some (.int r5), none, none]) zd_147_64 rfl]
          rw [zs_getR (n := 119) (K := zx_pk (zK L) 119) (ρ := zR) (c := 2) (k := 0) (q := 35) (p := 4) zd_147_65 rfl rfl rfl (by decide) rfl]
          rw [zs_getR (n := 119) (K := zx_pk (zK L) 119) (ρ := zR) (c := 6) (k := 17) (q := 4) (p := 15) zd_147_68 rfl rfl rfl (by decide) rfl]
          rw [zs_iload_n (ls := [some (.ref 35), some (.int x1), some (.int x2), some (.int (σ 7 x2.toNatClampNeg)), some (.int r3), some (.int r5), none, none]) zd_147_71 rfl]
          by_cases c7 : 0 ≤ x2 ∧ x2 < 97
          · rw [if_pos c7] at H
            rw [zp_iaload (n := 119) (K := zx_pk (zK L) 119) (σ := σ) (q := 15) (m := 97) (i := x2) (k := x2.toNatClampNeg) (v := (σ 15 x2.toNatClampNeg)) zd_147_72 rfl (by decide) (zJ_in c7 rfl) rfl rfl]
            rw [zs_bipush (z := 43) zd_147_73 (by decide)]
            by_cases c8 : ¬ (σ 15 x2.toNatClampNeg) = 43
            · rw [if_pos c8] at H
              rw [zp_icmp_ne_t (x := (σ 15 x2.toNatClampNeg)) (y := 43) (t := 88) zd_147_75 rfl c8]
              rw [zs_aload_n (ls := [some (.ref 35), some (.int x1), some (.int x2), some (.int (σ 7 x2.toNatClampNeg)), some (.int r3), some (.int r5), none, none]) zd_147_88 rfl]
              rw [zs_getR (n := 119) (K := zx_pk (zK L) 119) (ρ := zR) (c := 2) (k := 0) (q := 35) (p := 4) zd_147_89 rfl rfl rfl (by decide) rfl]
              rw [zs_getR (n := 119) (K := zx_pk (zK L) 119) (ρ := zR) (c := 6) (k := 17) (q := 4) (p := 15) zd_147_92 rfl rfl rfl (by decide) rfl]
              rw [zs_iload_n (ls := [some (.ref 35), some (.int x1), some (.int x2), some (.int (σ 7 x2.toNatClampNeg)), some (.int r3), some (.int r5), none, none]) zd_147_95 rfl]
              by_cases c9 : 0 ≤ x2 ∧ x2 < 97
              · rw [if_pos c9] at H
                rw [zp_iaload (n := 119) (K := zx_pk (zK L) 119) (σ := σ) (q := 15) (m := 97) (i := x2) (k := x2.toNatClampNeg) (v := (σ 15 x2.toNatClampNeg)) zd_147_96 rfl (by decide) (zJ_in c9 rfl) rfl rfl]
                rw [zs_bipush (z := 45) zd_147_97 (by decide)]
                by_cases c10 : ¬ (σ 15 x2.toNatClampNeg) = 45
                · rw [if_pos c10] at H
                  rw [zp_icmp_ne_t (x := (σ 15 x2.toNatClampNeg)) (y := 45) (t := 109) zd_147_99 rfl c10]
                  exact zt_Machine_work_109  H
                · rw [if_neg c10] at H
                  rw [zp_icmp_ne_f (x := (σ 15 x2.toNatClampNeg)) (y := 45) (t := 109) zd_147_99 rfl c10]
                  rw [zs_iload (ls := [some (.ref 35), some (.int x1), some (.int x2), some (.int (σ 7 x2.toNatClampNeg)), some (.int r3), some (.int r5), none, none]) zd_147_102 rfl]
                  rw [zs_iload (ls := [some (.ref 35), some (.int x1), some (.int x2), some (.int (σ 7 x2.toNatClampNeg)), some (.int r3), some (.int r5), none, none]) zd_147_104 rfl]
                  rw [zp_isub (x := r3) (y := r5) (z := (r3 - r5)) zd_147_106 rfl]
                  rw [zs_istore (x := (r3 - r5)) (ls' := [some (.ref 35), some (.int x1), some (.int x2), some (.int (σ 7 x2.toNatClampNeg)), some (.int (r3 - r5)), some (.int r5), none, none]) zd_147_107 (Nat.le_of_ble_eq_true rfl) rfl]
                  exact zt_Machine_work_109  H
              · rw [if_neg c9] at H
                cases H
            · rw [if_neg c8] at H
              rw [zp_icmp_ne_f (x := (σ 15 x2.toNatClampNeg)) (y := 43) (t := 88) zd_147_75 rfl c8]
              rw [zs_iload (ls := [some (.ref 35), some (.int x1), some (.int x2), some (.int (σ 7 x2.toNatClampNeg)), some (.int r3), some (.int r5), none, none]) zd_147_78 rfl]
              rw [zs_iload (ls := [some (.ref 35), some (.int x1), some (.int x2), some (.int (σ 7 x2.toNatClampNeg)), some (.int r3), some (.int r5), none, none]) zd_147_80 rfl]
              rw [zp_iadd (x := r3) (y := r5) (z := (r3 + r5)) zd_147_82 rfl]
              rw [zs_istore (x := (r3 + r5)) (ls' := [some (.ref 35), some (.int x1), some (.int x2), some (.int (σ 7 x2.toNatClampNeg)), some (.int (r3 + r5)), some (.int r5), none, none]) zd_147_83 (Nat.le_of_ble_eq_true rfl) rfl]
              rw [zs_goto (t := 109) zd_147_85 rfl]
              exact zt_Machine_work_109  H
          · rw [if_neg c7] at H
            cases H
        · rw [if_neg c6] at H
          rw [zp_if_ne_f (x := (σ 7 x2.toNatClampNeg)) (t := 64) zd_147_43 rfl c6]
          rw [zs_aload_n (ls := [some (.ref 35), some (.int x1), some (.int x2), some (.int (σ 7 x2.toNatClampNeg)), some (.int r3), some (.int r5), none, none]) zd_147_46 rfl]
          rw [zs_aload_n (ls := [some (.ref 35), some (.int x1), some (.int x2), some (.int (σ 7 x2.toNatClampNeg)), some (.int r3), some (.int r5), none, none]) zd_147_47 rfl]
          rw [zs_getR (n := 119) (K := zx_pk (zK L) 119) (ρ := zR) (c := 2) (k := 0) (q := 35) (p := 4) zd_147_48 rfl rfl rfl (by decide) rfl]
          rw [zs_getR (n := 119) (K := zx_pk (zK L) 119) (ρ := zR) (c := 6) (k := 10) (q := 4) (p := 8) zd_147_51 rfl rfl rfl (by decide) rfl]
          rw [zs_iload_n (ls := [some (.ref 35), some (.int x1), some (.int x2), some (.int (σ 7 x2.toNatClampNeg)), some (.int r3), some (.int r5), none, none]) zd_147_54 rfl]
          by_cases c19 : 0 ≤ x2 ∧ x2 < 97
          · rw [if_pos c19] at H
            rw [zp_iaload (n := 119) (K := zx_pk (zK L) 119) (σ := σ) (q := 8) (m := 97) (i := x2) (k := x2.toNatClampNeg) (v := (σ 8 x2.toNatClampNeg)) zd_147_55 rfl (by decide) (zJ_in c19 rfl) rfl rfl]
            obtain ⟨r20, hr20, H⟩ := Option.bind_eq_some_iff.mp H
            rw [zp_callVi (x := r20) (st := [.int (σ 8 x2.toNatClampNeg), .ref 35]) (as := [.ref 35, .int (σ 8 x2.toNatClampNeg)]) (rest := []) (e := 0) zd_147_56 rfl (by decide +kernel) (by decide) rfl rfl (Nat.le_of_ble_eq_true rfl) (zx_rcb_ok rfl (show 35 < 119 by decide)) (Nat.le_of_ble_eq_true rfl) rfl (by decide) (zt_Machine_valueOfField hr20)]
            rw [zs_istore (x := r20) (ls' := [some (.ref 35), some (.int x1), some (.int x2), some (.int (σ 7 x2.toNatClampNeg)), some (.int r20), some (.int r5), none, none]) zd_147_59 (Nat.le_of_ble_eq_true rfl) rfl]
            rw [zs_goto (t := 109) zd_147_61 rfl]
            exact zt_Machine_work_109  H
          · rw [if_neg c19] at H
            cases H
      · rw [if_neg c4] at H
        cases H
    · rw [if_neg c2] at H
      cases H
  · rw [if_neg c1] at H
    cases H
set_option maxRecDepth 20000 in
theorem zt_Machine_move_317 {a b L N : Nat} {σ : zS} {τ : zT} {v1 : Int32} {v6 : Int32} {o2 : Option Value} {o3 : Option Value} {o4 : Option Value} {o5 : Option Value} {r : zS} (H : zb_Machine_move_317 N σ v1 v6 = some r) : zx_go 3 146 317 [some (.ref 35), some (.int v1), o2, o3, o4, o5, some (.int v6)] [] ((119, a, b), zx_pk (zK L) 119, σ, τ, zR) = some (none, ((119, a, b), zx_pk (zK L) 119, r, τ, zR)) := by
  unfold zb_Machine_move_317 at H
  rw [zs_aload_n (ls := [some (.ref 35), some (.int v1), o2, o3, o4, o5, some (.int v6)]) zd_146_317 rfl]
  rw [zs_iload_n (ls := [some (.ref 35), some (.int v1), o2, o3, o4, o5, some (.int v6)]) zd_146_318 rfl]
  rw [zs_iload (ls := [some (.ref 35), some (.int v1), o2, o3, o4, o5, some (.int v6)]) zd_146_319 rfl]
  obtain ⟨r28, hr28, H⟩ := Option.bind_eq_some_iff.mp H
  rw [zp_callVv (st := [.int v6, .int v1, .ref 35]) (as := [.ref 35, .int v1, .int v6]) (rest := []) (e := 1) zd_146_321 rfl (by decide +kernel) (by decide) rfl rfl (Nat.le_of_ble_eq_true rfl) (zx_rcb_ok rfl (show 35 < 119 by decide)) (Nat.le_of_ble_eq_true rfl) rfl (by decide) (zt_Machine_goTo hr28)]
  have H := Option.some.inj H
  subst H
  exact zs_return zd_146_324 (by decide +kernel)
set_option maxRecDepth 20000 in
theorem zt_Machine_move_261 {a b L N : Nat} {σ : zS} {τ : zT} {v1 : Int32} {v3 : Int32} {v5 : Int32} {v6 : Int32} {o2 : Option Value} {o4 : Option Value} {r : zS} (H : zb_Machine_move_261 N σ v1 v3 v5 v6 = some r) : zx_go 3 146 261 [some (.ref 35), some (.int v1), o2, some (.int v3), o4, some (.int v5), some (.int v6)] [] ((119, a, b), zx_pk (zK L) 119, σ, τ, zR) = some (none, ((119, a, b), zx_pk (zK L) 119, r, τ, zR)) := by
  unfold zb_Machine_move_261 at H
  rw [zs_iload (ls := [some (.ref 35), some (.int v1), o2, some (.int v3), o4, some (.int v5), some (.int v6)]) zd_146_261 rfl]
  by_cases c25 : ¬ v5 = 0
  · rw [if_pos c25] at H
    rw [zp_if_ne_t (x := v5) (t := 280) zd_146_263 rfl c25]
    rw [zs_aload_n (ls := [some (.ref 35), some (.int v1), o2, some (.int v3), o4, some (.int v5), some (.int v6)]) zd_146_280 rfl]
    rw [zs_iload_n (ls := [some (.ref 35), some (.int v1), o2, some (.int v3), o4, some (.int v5), some (.int v6)]) zd_146_281 rfl]
    obtain ⟨r26, hr26, H⟩ := Option.bind_eq_some_iff.mp H
    rw [zp_callVi (x := r26) (st := [.int v1, .ref 35]) (as := [.ref 35, .int v1]) (rest := []) (e := 0) zd_146_282 rfl (by decide +kernel) (by decide) rfl rfl (Nat.le_of_ble_eq_true rfl) (zx_rcb_ok rfl (show 35 < 119 by decide)) (Nat.le_of_ble_eq_true rfl) rfl (by decide) (zt_Machine_howOf hr26)]
    rw [zs_iconst (z := 1) zd_146_285 (by decide)]
    by_cases c27 : ¬ r26 = 1
    · rw [if_pos c27] at H
      rw [zp_icmp_ne_t (x := r26) (y := 1) (t := 317) zd_146_286 rfl c27]
      exact zt_Machine_move_317  H
    · rw [if_neg c27] at H
      rw [zp_icmp_ne_f (x := r26) (y := 1) (t := 317) zd_146_286 rfl c27]
      rw [zs_aload_n (ls := [some (.ref 35), some (.int v1), o2, some (.int v3), o4, some (.int v5), some (.int v6)]) zd_146_289 rfl]
      rw [zs_getR (n := 119) (K := zx_pk (zK L) 119) (ρ := zR) (c := 2) (k := 0) (q := 35) (p := 4) zd_146_290 rfl rfl rfl (by decide) rfl]
      rw [zs_getR (n := 119) (K := zx_pk (zK L) 119) (ρ := zR) (c := 6) (k := 9) (q := 4) (p := 7) zd_146_293 rfl rfl rfl (by decide) rfl]
      rw [zs_iload_n (ls := [some (.ref 35), some (.int v1), o2, some (.int v3), o4, some (.int v5), some (.int v6)]) zd_146_296 rfl]
      by_cases c29 : 0 ≤ v3 ∧ v3 < 97
      · rw [if_pos c29] at H
        rw [zp_iaload (n := 119) (K := zx_pk (zK L) 119) (σ := σ) (q := 7) (m := 97) (i := v3) (k := v3.toNatClampNeg) (v := (σ 7 v3.toNatClampNeg)) zd_146_297 rfl (by decide) (zJ_in c29 rfl) rfl rfl]
        rw [zs_bipush (z := 7) zd_146_298 (by decide)]
        by_cases c30 : ¬ (σ 7 v3.toNatClampNeg) = 7
        · rw [if_pos c30] at H
          rw [zp_icmp_ne_t (x := (σ 7 v3.toNatClampNeg)) (y := 7) (t := 317) zd_146_300 rfl c30]
          exact zt_Machine_move_317  H
        · rw [if_neg c30] at H
          rw [zp_icmp_ne_f (x := (σ 7 v3.toNatClampNeg)) (y := 7) (t := 317) zd_146_300 rfl c30]
          rw [zs_aload_n (ls := [some (.ref 35), some (.int v1), o2, some (.int v3), o4, some (.int v5), some (.int v6)]) zd_146_303 rfl]
          rw [zs_iload_n (ls := [some (.ref 35), some (.int v1), o2, some (.int v3), o4, some (.int v5), some (.int v6)]) zd_146_304 rfl]
          rw [zs_aload_n (ls := [some (.ref 35), some (.int v1), o2, some (.int v3), o4, some (.int v5), some (.int v6)]) zd_146_305 rfl]
          rw [zs_iload_n (ls := [some (.ref 35), some (.int v1), o2, some (.int v3), o4, some (.int v5), some (.int v6)]) zd_146_306 rfl]
          obtain ⟨r31, hr31, H⟩ := Option.bind_eq_some_iff.mp H
          rw [zp_callVi (x := r31) (st := [.int v1, .ref 35, .int v1, .ref 35]) (as := [.ref 35, .int v1]) (rest := [.int v1, .ref 35]) (e := 1) zd_146_307 rfl (by decide +kernel) (by decide) rfl rfl (Nat.le_of_ble_eq_true rfl) (zx_rcb_ok rfl (show 35 < 119 by decide)) (Nat.le_of_ble_eq_true rfl) rfl (by decide) (zt_Machine_stepOf hr31)]
          rw [zs_iconst (z := 2) zd_146_310 (by decide)]
          obtain ⟨r32, hr32, H⟩ := Option.bind_eq_some_iff.mp H
          rw [zp_callVv (st := [.int 2, .int r31, .int v1, .ref 35]) (as := [.ref 35, .int v1, .int r31, .int 2]) (rest := []) (e := 0) zd_146_311 rfl (by decide +kernel) (by decide) rfl rfl (Nat.le_of_ble_eq_true rfl) (zx_rcb_ok rfl (show 35 < 119 by decide)) (Nat.le_of_ble_eq_true rfl) rfl (by decide) (zt_Machine_place hr32)]
          rw [zs_goto (t := 324) zd_146_314 rfl]
          have H := Option.some.inj H
          subst H
          exact zs_return zd_146_324 (by decide +kernel)
      · rw [if_neg c29] at H
        cases H
  · rw [if_neg c25] at H
    rw [zp_if_ne_f (x := v5) (t := 280) zd_146_263 rfl c25]
    rw [zs_aload_n (ls := [some (.ref 35), some (.int v1), o2, some (.int v3), o4, some (.int v5), some (.int v6)]) zd_146_266 rfl]
    rw [zs_iload_n (ls := [some (.ref 35), some (.int v1), o2, some (.int v3), o4, some (.int v5), some (.int v6)]) zd_146_267 rfl]
    rw [zs_aload_n (ls := [some (.ref 35), some (.int v1), o2, some (.int v3), o4, some (.int v5), some (.int v6)]) zd_146_268 rfl]
    rw [zs_iload_n (ls := [some (.ref 35), some (.int v1), o2, some (.int v3), o4, some (.int v5), some (.int v6)]) zd_146_269 rfl]
    obtain ⟨r33, hr33, H⟩ := Option.bind_eq_some_iff.mp H
    rw [zp_callVi (x := r33) (st := [.int v1, .ref 35, .int v1, .ref 35]) (as := [.ref 35, .int v1]) (rest := [.int v1, .ref 35]) (e := 1) zd_146_270 rfl (by decide +kernel) (by decide) rfl rfl (Nat.le_of_ble_eq_true rfl) (zx_rcb_ok rfl (show 35 < 119 by decide)) (Nat.le_of_ble_eq_true rfl) rfl (by decide) (zt_Machine_stepOf hr33)]
    rw [zs_iconst (z := 5) zd_146_273 (by decide)]
    obtain ⟨r34, hr34, H⟩ := Option.bind_eq_some_iff.mp H
    rw [zp_callVv (st := [.int 5, .int r33, .int v1, .ref 35]) (as := [.ref 35, .int v1, .int r33, .int 5]) (rest := []) (e := 0) zd_146_274 rfl (by decide +kernel) (by decide) rfl rfl (Nat.le_of_ble_eq_true rfl) (zx_rcb_ok rfl (show 35 < 119 by decide)) (Nat.le_of_ble_eq_true rfl) rfl (by decide) (zt_Machine_place hr34)]
    rw [zs_goto (t := 324) zd_146_277 rfl]
    have H := Option.some.inj H
    subst H
    exact zs_return zd_146_324 (by decide +kernel)
set_option maxRecDepth 20000 in
theorem zt_Machine_move_216 {a b L N : Nat} {σ : zS} {τ : zT} {v1 : Int32} {v3 : Int32} {v5 : Int32} {s0 : Int32} {o2 : Option Value} {o4 : Option Value} {o6 : Option Value} {r : zS} (H : zb_Machine_move_216 N σ v1 v3 v5 s0 = some r) : zx_go 3 146 216 [some (.ref 35), some (.int v1), o2, some (.int v3), o4, some (.int v5), o6] [.int s0] ((119, a, b), zx_pk (zK L) 119, σ, τ, zR) = some (none, ((119, a, b), zx_pk (zK L) 119, r, τ, zR)) := by
  unfold zb_Machine_move_216 at H
  rw [zs_istore (x := s0) (ls' := [some (.ref 35), some (.int v1), o2, some (.int v3), o4, some (.int v5), some (.int s0)]) zd_146_216 (Nat.le_of_ble_eq_true rfl) rfl]
  rw [zs_goto (t := 261) zd_146_218 rfl]
  exact zt_Machine_move_261  H
set_option maxRecDepth 20000 in
theorem zt_Machine_move_116 {a b L N : Nat} {σ : zS} {τ : zT} {v1 : Int32} {v3 : Int32} {v5 : Int32} {v6 : Int32} {s0 : Int32} {o2 : Option Value} {o4 : Option Value} {r : zS} (H : zb_Machine_move_116 N σ v1 v3 v5 v6 s0 = some r) : zx_go 3 146 116 [some (.ref 35), some (.int v1), o2, some (.int v3), o4, some (.int v5), some (.int v6)] [.int s0] ((119, a, b), zx_pk (zK L) 119, σ, τ, zR) = some (none, ((119, a, b), zx_pk (zK L) 119, r, τ, zR)) := by
  unfold zb_Machine_move_116 at H
  by_cases c12 : s0 = 0
  · rw [if_pos c12] at H
    rw [zs_table (x := s0) (off := 68) (t := 184) zd_146_116 (by rw [c12]; decide) rfl]
    rw [zs_aload_n (ls := [some (.ref 35), some (.int v1), o2, some (.int v3), o4, some (.int v5), some (.int v6)]) zd_146_184 rfl]
    rw [zs_iload_n (ls := [some (.ref 35), some (.int v1), o2, some (.int v3), o4, some (.int v5), some (.int v6)]) zd_146_185 rfl]
    rw [zs_iload_n (ls := [some (.ref 35), some (.int v1), o2, some (.int v3), o4, some (.int v5), some (.int v6)]) zd_146_186 rfl]
    obtain ⟨r49, hr49, H⟩ := Option.bind_eq_some_iff.mp H
    rw [zp_callVv (st := [.int v3, .int v1, .ref 35]) (as := [.ref 35, .int v1, .int v3]) (rest := []) (e := 2) zd_146_187 rfl (by decide +kernel) (by decide) rfl rfl (Nat.le_of_ble_eq_true rfl) (zx_rcb_ok rfl (show 35 < 119 by decide)) (Nat.le_of_ble_eq_true rfl) rfl (by decide) (zt_Machine_work hr49)]
    rw [zs_goto (t := 261) zd_146_190 rfl]
    exact zt_Machine_move_261  H
  · rw [if_neg c12] at H
    by_cases c13 : s0 = 1
    · rw [if_pos c13] at H
      rw [zs_table (x := s0) (off := 68) (t := 184) zd_146_116 (by rw [c13]; decide) rfl]
      rw [zs_aload_n (ls := [some (.ref 35), some (.int v1), o2, some (.int v3), o4, some (.int v5), some (.int v6)]) zd_146_184 rfl]
      rw [zs_iload_n (ls := [some (.ref 35), some (.int v1), o2, some (.int v3), o4, some (.int v5), some (.int v6)]) zd_146_185 rfl]
      rw [zs_iload_n (ls := [some (.ref 35), some (.int v1), o2, some (.int v3), o4, some (.int v5), some (.int v6)]) zd_146_186 rfl]
      obtain ⟨r48, hr48, H⟩ := Option.bind_eq_some_iff.mp H
      rw [zp_callVv (st := [.int v3, .int v1, .ref 35]) (as := [.ref 35, .int v1, .int v3]) (rest := []) (e := 2) zd_146_187 rfl (by decide +kernel) (by decide) rfl rfl (Nat.le_of_ble_eq_true rfl) (zx_rcb_ok rfl (show 35 < 119 by decide)) (Nat.le_of_ble_eq_true rfl) rfl (by decide) (zt_Machine_work hr48)]
      rw [zs_goto (t := 261) zd_146_190 rfl]
      exact zt_Machine_move_261  H
    · rw [if_neg c13] at H
      by_cases c14 : s0 = 2
      · rw [if_pos c14] at H
        rw [zs_table (x := s0) (off := 68) (t := 184) zd_146_116 (by rw [c14]; decide) rfl]
        rw [zs_aload_n (ls := [some (.ref 35), some (.int v1), o2, some (.int v3), o4, some (.int v5), some (.int v6)]) zd_146_184 rfl]
        rw [zs_iload_n (ls := [some (.ref 35), some (.int v1), o2, some (.int v3), o4, some (.int v5), some (.int v6)]) zd_146_185 rfl]
        rw [zs_iload_n (ls := [some (.ref 35), some (.int v1), o2, some (.int v3), o4, some (.int v5), some (.int v6)]) zd_146_186 rfl]
        obtain ⟨r47, hr47, H⟩ := Option.bind_eq_some_iff.mp H
        rw [zp_callVv (st := [.int v3, .int v1, .ref 35]) (as := [.ref 35, .int v1, .int v3]) (rest := []) (e := 2) zd_146_187 rfl (by decide +kernel) (by decide) rfl rfl (Nat.le_of_ble_eq_true rfl) (zx_rcb_ok rfl (show 35 < 119 by decide)) (Nat.le_of_ble_eq_true rfl) rfl (by decide) (zt_Machine_work hr47)]
        rw [zs_goto (t := 261) zd_146_190 rfl]
        exact zt_Machine_move_261  H
      · rw [if_neg c14] at H
        by_cases c15 : s0 = 3
        · rw [if_pos c15] at H
          rw [zs_table (x := s0) (off := 145) (t := 261) zd_146_116 (by rw [c15]; decide) rfl]
          exact zt_Machine_move_261  H
        · rw [if_neg c15] at H
          by_cases c16 : s0 = 4
          · rw [if_pos c16] at H
            rw [zs_table (x := s0) (off := 145) (t := 261) zd_146_116 (by rw [c16]; decide) rfl]
            exact zt_Machine_move_261  H
          · rw [if_neg c16] at H
            by_cases c17 : s0 = 5
            · rw [if_pos c17] at H
              rw [zs_table (x := s0) (off := 77) (t := 193) zd_146_116 (by rw [c17]; decide) rfl]
              rw [zs_aload_n (ls := [some (.ref 35), some (.int v1), o2, some (.int v3), o4, some (.int v5), some (.int v6)]) zd_146_193 rfl]
              rw [zs_iload_n (ls := [some (.ref 35), some (.int v1), o2, some (.int v3), o4, some (.int v5), some (.int v6)]) zd_146_194 rfl]
              rw [zs_iload_n (ls := [some (.ref 35), some (.int v1), o2, some (.int v3), o4, some (.int v5), some (.int v6)]) zd_146_195 rfl]
              obtain ⟨r44, hr44, H⟩ := Option.bind_eq_some_iff.mp H
              rw [zp_callVi (x := r44) (st := [.int v3, .int v1, .ref 35]) (as := [.ref 35, .int v1, .int v3]) (rest := []) (e := 2) zd_146_196 rfl (by decide +kernel) (by decide) rfl rfl (Nat.le_of_ble_eq_true rfl) (zx_rcb_ok rfl (show 35 < 119 by decide)) (Nat.le_of_ble_eq_true rfl) rfl (by decide) (zt_Machine_holds hr44)]
              by_cases c45 : r44 = 0
              · rw [if_pos c45] at H
                rw [zp_if_eq_t (x := r44) (t := 207) zd_146_199 rfl c45]
                rw [zs_aload_n (ls := [some (.ref 35), some (.int v1), o2, some (.int v3), o4, some (.int v5), some (.int v6)]) zd_146_207 rfl]
                rw [zs_getR (n := 119) (K := zx_pk (zK L) 119) (ρ := zR) (c := 2) (k := 0) (q := 35) (p := 4) zd_146_208 rfl rfl rfl (by decide) rfl]
                rw [zs_getR (n := 119) (K := zx_pk (zK L) 119) (ρ := zR) (c := 6) (k := 12) (q := 4) (p := 10) zd_146_211 rfl rfl rfl (by decide) rfl]
                rw [zs_iload_n (ls := [some (.ref 35), some (.int v1), o2, some (.int v3), o4, some (.int v5), some (.int v6)]) zd_146_214 rfl]
                by_cases c46 : 0 ≤ v3 ∧ v3 < 97
                · rw [if_pos c46] at H
                  rw [zp_iaload (n := 119) (K := zx_pk (zK L) 119) (σ := σ) (q := 10) (m := 97) (i := v3) (k := v3.toNatClampNeg) (v := (σ 10 v3.toNatClampNeg)) zd_146_215 rfl (by decide) (zJ_in c46 rfl) rfl rfl]
                  exact zt_Machine_move_216  H
                · rw [if_neg c46] at H
                  cases H
              · rw [if_neg c45] at H
                rw [zp_if_eq_f (x := r44) (t := 207) zd_146_199 rfl c45]
                rw [zs_iload (ls := [some (.ref 35), some (.int v1), o2, some (.int v3), o4, some (.int v5), some (.int v6)]) zd_146_202 rfl]
                rw [zs_goto (t := 216) zd_146_204 rfl]
                exact zt_Machine_move_216  H
            · rw [if_neg c17] at H
              by_cases c18 : s0 = 6
              · rw [if_pos c18] at H
                rw [zs_table (x := s0) (off := 77) (t := 193) zd_146_116 (by rw [c18]; decide) rfl]
                rw [zs_aload_n (ls := [some (.ref 35), some (.int v1), o2, some (.int v3), o4, some (.int v5), some (.int v6)]) zd_146_193 rfl]
                rw [zs_iload_n (ls := [some (.ref 35), some (.int v1), o2, some (.int v3), o4, some (.int v5), some (.int v6)]) zd_146_194 rfl]
                rw [zs_iload_n (ls := [some (.ref 35), some (.int v1), o2, some (.int v3), o4, some (.int v5), some (.int v6)]) zd_146_195 rfl]
                obtain ⟨r41, hr41, H⟩ := Option.bind_eq_some_iff.mp H
                rw [zp_callVi (x := r41) (st := [.int v3, .int v1, .ref 35]) (as := [.ref 35, .int v1, .int v3]) (rest := []) (e := 2) zd_146_196 rfl (by decide +kernel) (by decide) rfl rfl (Nat.le_of_ble_eq_true rfl) (zx_rcb_ok rfl (show 35 < 119 by decide)) (Nat.le_of_ble_eq_true rfl) rfl (by decide) (zt_Machine_holds hr41)]
                by_cases c42 : r41 = 0
                · rw [if_pos c42] at H
                  rw [zp_if_eq_t (x := r41) (t := 207) zd_146_199 rfl c42]
                  rw [zs_aload_n (ls := [some (.ref 35), some (.int v1), o2, some (.int v3), o4, some (.int v5), some (.int v6)]) zd_146_207 rfl]
                  rw [zs_getR (n := 119) (K := zx_pk (zK L) 119) (ρ := zR) (c := 2) (k := 0) (q := 35) (p := 4) zd_146_208 rfl rfl rfl (by decide) rfl]
                  rw [zs_getR (n := 119) (K := zx_pk (zK L) 119) (ρ := zR) (c := 6) (k := 12) (q := 4) (p := 10) zd_146_211 rfl rfl rfl (by decide) rfl]
                  rw [zs_iload_n (ls := [some (.ref 35), some (.int v1), o2, some (.int v3), o4, some (.int v5), some (.int v6)]) zd_146_214 rfl]
                  by_cases c43 : 0 ≤ v3 ∧ v3 < 97
                  · rw [if_pos c43] at H
                    rw [zp_iaload (n := 119) (K := zx_pk (zK L) 119) (σ := σ) (q := 10) (m := 97) (i := v3) (k := v3.toNatClampNeg) (v := (σ 10 v3.toNatClampNeg)) zd_146_215 rfl (by decide) (zJ_in c43 rfl) rfl rfl]
                    exact zt_Machine_move_216  H
                  · rw [if_neg c43] at H
                    cases H
                · rw [if_neg c42] at H
                  rw [zp_if_eq_f (x := r41) (t := 207) zd_146_199 rfl c42]
                  rw [zs_iload (ls := [some (.ref 35), some (.int v1), o2, some (.int v3), o4, some (.int v5), some (.int v6)]) zd_146_202 rfl]
                  rw [zs_goto (t := 216) zd_146_204 rfl]
                  exact zt_Machine_move_216  H
              · rw [if_neg c18] at H
                by_cases c19 : s0 = 7
                · rw [if_pos c19] at H
                  rw [zs_table (x := s0) (off := 116) (t := 232) zd_146_116 (by rw [c19]; decide) rfl]
                  rw [zs_aload_n (ls := [some (.ref 35), some (.int v1), o2, some (.int v3), o4, some (.int v5), some (.int v6)]) zd_146_232 rfl]
                  rw [zs_iload_n (ls := [some (.ref 35), some (.int v1), o2, some (.int v3), o4, some (.int v5), some (.int v6)]) zd_146_233 rfl]
                  rw [zs_iload_n (ls := [some (.ref 35), some (.int v1), o2, some (.int v3), o4, some (.int v5), some (.int v6)]) zd_146_234 rfl]
                  obtain ⟨r40, hr40, H⟩ := Option.bind_eq_some_iff.mp H
                  rw [zp_callVi (x := r40.1) (st := [.int v3, .int v1, .ref 35]) (as := [.ref 35, .int v1, .int v3]) (rest := []) (e := 2) zd_146_235 rfl (by decide +kernel) (by decide) rfl rfl (Nat.le_of_ble_eq_true rfl) (zx_rcb_ok rfl (show 35 < 119 by decide)) (Nat.le_of_ble_eq_true rfl) rfl (by decide) (zt_Machine_signal hr40)]
                  rw [zs_istore (x := r40.1) (ls' := [some (.ref 35), some (.int v1), o2, some (.int v3), (zJ_cl o4), some (.int r40.1), some (.int v6)]) zd_146_238 (Nat.le_of_ble_eq_true rfl) (zJ_s1 (k := 4) (o := o4) rfl)]
                  rw [zs_goto (t := 261) zd_146_240 rfl]
                  exact zt_Machine_move_261  H
                · rw [if_neg c19] at H
                  by_cases c20 : s0 = 8
                  · rw [if_pos c20] at H
                    rw [zs_table (x := s0) (off := 116) (t := 232) zd_146_116 (by rw [c20]; decide) rfl]
                    rw [zs_aload_n (ls := [some (.ref 35), some (.int v1), o2, some (.int v3), o4, some (.int v5), some (.int v6)]) zd_146_232 rfl]
                    rw [zs_iload_n (ls := [some (.ref 35), some (.int v1), o2, some (.int v3), o4, some (.int v5), some (.int v6)]) zd_146_233 rfl]
                    rw [zs_iload_n (ls := [some (.ref 35), some (.int v1), o2, some (.int v3), o4, some (.int v5), some (.int v6)]) zd_146_234 rfl]
                    obtain ⟨r39, hr39, H⟩ := Option.bind_eq_some_iff.mp H
                    rw [zp_callVi (x := r39.1) (st := [.int v3, .int v1, .ref 35]) (as := [.ref 35, .int v1, .int v3]) (rest := []) (e := 2) zd_146_235 rfl (by decide +kernel) (by decide) rfl rfl (Nat.le_of_ble_eq_true rfl) (zx_rcb_ok rfl (show 35 < 119 by decide)) (Nat.le_of_ble_eq_true rfl) rfl (by decide) (zt_Machine_signal hr39)]
                    rw [zs_istore (x := r39.1) (ls' := [some (.ref 35), some (.int v1), o2, some (.int v3), (zJ_cl o4), some (.int r39.1), some (.int v6)]) zd_146_238 (Nat.le_of_ble_eq_true rfl) (zJ_s1 (k := 4) (o := o4) rfl)]
                    rw [zs_goto (t := 261) zd_146_240 rfl]
                    exact zt_Machine_move_261  H
                  · rw [if_neg c20] at H
                    by_cases c21 : s0 = 9
                    · rw [if_pos c21] at H
                      rw [zs_table (x := s0) (off := 116) (t := 232) zd_146_116 (by rw [c21]; decide) rfl]
                      rw [zs_aload_n (ls := [some (.ref 35), some (.int v1), o2, some (.int v3), o4, some (.int v5), some (.int v6)]) zd_146_232 rfl]
                      rw [zs_iload_n (ls := [some (.ref 35), some (.int v1), o2, some (.int v3), o4, some (.int v5), some (.int v6)]) zd_146_233 rfl]
                      rw [zs_iload_n (ls := [some (.ref 35), some (.int v1), o2, some (.int v3), o4, some (.int v5), some (.int v6)]) zd_146_234 rfl]
                      obtain ⟨r38, hr38, H⟩ := Option.bind_eq_some_iff.mp H
                      rw [zp_callVi (x := r38.1) (st := [.int v3, .int v1, .ref 35]) (as := [.ref 35, .int v1, .int v3]) (rest := []) (e := 2) zd_146_235 rfl (by decide +kernel) (by decide) rfl rfl (Nat.le_of_ble_eq_true rfl) (zx_rcb_ok rfl (show 35 < 119 by decide)) (Nat.le_of_ble_eq_true rfl) rfl (by decide) (zt_Machine_signal hr38)]
                      rw [zs_istore (x := r38.1) (ls' := [some (.ref 35), some (.int v1), o2, some (.int v3), (zJ_cl o4), some (.int r38.1), some (.int v6)]) zd_146_238 (Nat.le_of_ble_eq_true rfl) (zJ_s1 (k := 4) (o := o4) rfl)]
                      rw [zs_goto (t := 261) zd_146_240 rfl]
                      exact zt_Machine_move_261  H
                    · rw [if_neg c21] at H
                      by_cases c22 : s0 = 10
                      · rw [if_pos c22] at H
                        rw [zs_table (x := s0) (off := 127) (t := 243) zd_146_116 (by rw [c22]; decide) rfl]
                        rw [zs_aload_n (ls := [some (.ref 35), some (.int v1), o2, some (.int v3), o4, some (.int v5), some (.int v6)]) zd_146_243 rfl]
                        rw [zs_aload_n (ls := [some (.ref 35), some (.int v1), o2, some (.int v3), o4, some (.int v5), some (.int v6)]) zd_146_244 rfl]
                        rw [zs_getR (n := 119) (K := zx_pk (zK L) 119) (ρ := zR) (c := 2) (k := 0) (q := 35) (p := 4) zd_146_245 rfl rfl rfl (by decide) rfl]
                        rw [zs_getR (n := 119) (K := zx_pk (zK L) 119) (ρ := zR) (c := 6) (k := 10) (q := 4) (p := 8) zd_146_248 rfl rfl rfl (by decide) rfl]
                        rw [zs_iload_n (ls := [some (.ref 35), some (.int v1), o2, some (.int v3), o4, some (.int v5), some (.int v6)]) zd_146_251 rfl]
                        by_cases c36 : 0 ≤ v3 ∧ v3 < 97
                        · rw [if_pos c36] at H
                          rw [zp_iaload (n := 119) (K := zx_pk (zK L) 119) (σ := σ) (q := 8) (m := 97) (i := v3) (k := v3.toNatClampNeg) (v := (σ 8 v3.toNatClampNeg)) zd_146_252 rfl (by decide) (zJ_in c36 rfl) rfl rfl]
                          obtain ⟨r37, hr37, H⟩ := Option.bind_eq_some_iff.mp H
                          rw [zp_callVi (x := r37.1) (st := [.int (σ 8 v3.toNatClampNeg), .ref 35]) (as := [.ref 35, .int (σ 8 v3.toNatClampNeg)]) (rest := []) (e := 2) zd_146_253 rfl (by decide +kernel) (by decide) rfl rfl (Nat.le_of_ble_eq_true rfl) (zx_rcb_ok rfl (show 35 < 119 by decide)) (Nat.le_of_ble_eq_true rfl) rfl (by decide) (zt_Machine_startThread hr37)]
                          rw [zs_istore (x := r37.1) (ls' := [some (.ref 35), some (.int v1), o2, some (.int v3), (zJ_cl o4), some (.int r37.1), some (.int v6)]) zd_146_256 (Nat.le_of_ble_eq_true rfl) (zJ_s1 (k := 4) (o := o4) rfl)]
                          rw [zs_goto (t := 261) zd_146_258 rfl]
                          exact zt_Machine_move_261  H
                        · rw [if_neg c36] at H
                          cases H
                      · rw [if_neg c22] at H
                        by_cases c23 : s0 = 11
                        · rw [if_pos c23] at H
                          rw [zs_table (x := s0) (off := 145) (t := 261) zd_146_116 (by rw [c23]; decide) rfl]
                          exact zt_Machine_move_261  H
                        · rw [if_neg c23] at H
                          by_cases c24 : s0 = 12
                          · rw [if_pos c24] at H
                            rw [zs_table (x := s0) (off := 105) (t := 221) zd_146_116 (by rw [c24]; decide) rfl]
                            rw [zs_aload_n (ls := [some (.ref 35), some (.int v1), o2, some (.int v3), o4, some (.int v5), some (.int v6)]) zd_146_221 rfl]
                            rw [zs_iload_n (ls := [some (.ref 35), some (.int v1), o2, some (.int v3), o4, some (.int v5), some (.int v6)]) zd_146_222 rfl]
                            rw [zs_iload_n (ls := [some (.ref 35), some (.int v1), o2, some (.int v3), o4, some (.int v5), some (.int v6)]) zd_146_223 rfl]
                            obtain ⟨r35, hr35, H⟩ := Option.bind_eq_some_iff.mp H
                            rw [zp_callVi (x := r35) (st := [.int v3, .int v1, .ref 35]) (as := [.ref 35, .int v1, .int v3]) (rest := []) (e := 2) zd_146_224 rfl (by decide +kernel) (by decide) rfl rfl (Nat.le_of_ble_eq_true rfl) (zx_rcb_ok rfl (show 35 < 119 by decide)) (Nat.le_of_ble_eq_true rfl) rfl (by decide) (zt_Machine_holds hr35)]
                            rw [zs_istore (x := r35) (ls' := [some (.ref 35), some (.int v1), o2, some (.int v3), (zJ_cl o4), some (.int r35), some (.int v6)]) zd_146_227 (Nat.le_of_ble_eq_true rfl) (zJ_s1 (k := 4) (o := o4) rfl)]
                            rw [zs_goto (t := 261) zd_146_229 rfl]
                            exact zt_Machine_move_261  H
                          · rw [if_neg c24] at H
                            rw [zs_table (x := s0) (off := 145) (t := 261) zd_146_116 (if_pos (by have e : ∀ z : Int32, ¬ s0 = z → ¬ (s0 : Int32).toInt = z.toInt := fun z h q => h (Int32.toInt_inj.mp q); have q0 := e 0 c12; have q1 := e 1 c13; have q2 := e 2 c14; have q3 := e 3 c15; have q4 := e 4 c16; have q5 := e 5 c17; have q6 := e 6 c18; have q7 := e 7 c19; have q8 := e 8 c20; have q9 := e 9 c21; have q10 := e 10 c22; have q11 := e 11 c23; have q12 := e 12 c24; simp only [show (0 : Int32).toInt = 0 from rfl, show (1 : Int32).toInt = 1 from rfl, show (10 : Int32).toInt = 10 from rfl, show (11 : Int32).toInt = 11 from rfl, show (12 : Int32).toInt = 12 from rfl, show (2 : Int32).toInt = 2 from rfl, show (3 : Int32).toInt = 3 from rfl, show (4 : Int32).toInt = 4 from rfl, show (5 : Int32).toInt = 5 from rfl, show (6 : Int32).toInt = 6 from rfl, show (7 : Int32).toInt = 7 from rfl, show (8 : Int32).toInt = 8 from rfl, show (9 : Int32).toInt = 9 from rfl] at q0 q1 q2 q3 q4 q5 q6 q7 q8 q9 q10 q11 q12; omega)) rfl]
                            exact zt_Machine_move_261  H
set_option maxRecDepth 20000 in
theorem zt_Machine_move_39 {a b L N : Nat} {σ : zS} {τ : zT} {v1 : Int32} {v3 : Int32} {s0 : Int32} {o2 : Option Value} {o4 : Option Value} {o5 : Option Value} {o6 : Option Value} {r : zS} (H : zb_Machine_move_39 N σ v1 v3 s0 = some r) : zx_go 3 146 39 [some (.ref 35), some (.int v1), o2, some (.int v3), o4, o5, o6] [.int s0] ((119, a, b), zx_pk (zK L) 119, σ, τ, zR) = some (none, ((119, a, b), zx_pk (zK L) 119, r, τ, zR)) := by
  unfold zb_Machine_move_39 at H
  rw [zs_istore (x := s0) (ls' := [some (.ref 35), some (.int v1), o2, some (.int v3), some (.int s0), o5, o6]) zd_146_39 (Nat.le_of_ble_eq_true rfl) rfl]
  rw [zs_aload_n (ls := [some (.ref 35), some (.int v1), o2, some (.int v3), some (.int s0), o5, o6]) zd_146_41 rfl]
  rw [zs_getR (n := 119) (K := zx_pk (zK L) 119) (ρ := zR) (c := 2) (k := 4) (q := 35) (p := 39) zd_146_42 rfl rfl rfl (by decide) rfl]
  rw [zs_iconst (z := 0) zd_146_45 (by decide)]
  rw [zs_aload_n (ls := [some (.ref 35), some (.int v1), o2, some (.int v3), some (.int s0), o5, o6]) zd_146_46 rfl]
  rw [zs_getR (n := 119) (K := zx_pk (zK L) 119) (ρ := zR) (c := 2) (k := 5) (q := 35) (p := 40) zd_146_47 rfl rfl rfl (by decide) rfl]
  rw [zs_iconst (z := 0) zd_146_50 (by decide)]
  rw [zs_iconst (z := 5) zd_146_51 (by decide)]
  rw [zp_copy (r := []) (n := 119) (K := zx_pk (zK L) 119) (σ := σ) (a := 39) (b := 40) (n0 := 5) (n1 := 5) (sp := 0) (dp := 0) (m := 5) zd_146_52 rfl (Nat.le_of_ble_eq_true rfl) rfl rfl ⟨by decide, by decide⟩ (zJ_cpi (c0 := 0) (c1 := 0) ⟨by decide, by decide, by decide, by decide⟩ (by decide) (by decide) (by decide))]
  rw [zs_aload_n (ls := [some (.ref 35), some (.int v1), o2, some (.int v3), some (.int s0), o5, o6]) zd_146_55 rfl]
  rw [zs_getR (n := 119) (K := zx_pk (zK L) 119) (ρ := zR) (c := 2) (k := 5) (q := 35) (p := 40) zd_146_56 rfl rfl rfl (by decide) rfl]
  rw [zs_iload_n (ls := [some (.ref 35), some (.int v1), o2, some (.int v3), some (.int s0), o5, o6]) zd_146_59 rfl]
  rw [zs_iconst (z := 1) zd_146_60 (by decide)]
  rw [zp_iadd (x := v1) (y := 1) (z := (v1 + 1)) zd_146_61 rfl]
  rw [zs_aload_n (ls := [some (.ref 35), some (.int v1), o2, some (.int v3), some (.int s0), o5, o6]) zd_146_62 rfl]
  rw [zs_getR (n := 119) (K := zx_pk (zK L) 119) (ρ := zR) (c := 2) (k := 4) (q := 35) (p := 39) zd_146_63 rfl rfl rfl (by decide) rfl]
  rw [zs_iload_n (ls := [some (.ref 35), some (.int v1), o2, some (.int v3), some (.int s0), o5, o6]) zd_146_66 rfl]
  rw [zs_iconst (z := 1) zd_146_67 (by decide)]
  rw [zp_iadd (x := v1) (y := 1) (z := (v1 + 1)) zd_146_68 rfl]
  by_cases c6 : 0 ≤ (v1 + 1) ∧ (v1 + 1) < 5
  · rw [if_pos c6] at H
    rw [zp_iaload (n := 119) (K := zx_pk (zK L) 119) (σ := (zJ_copy σ 39 40 0 0 5)) (q := 39) (m := 5) (i := (v1 + 1)) (k := (v1 + 1).toNatClampNeg) (v := ((zJ_copy σ 39 40 0 0 5) 39 (v1 + 1).toNatClampNeg)) zd_146_69 rfl (by decide) (zJ_in c6 rfl) rfl rfl]
    rw [zs_ldc (x := (-131073)) zd_146_70 rfl]
    rw [zp_iand (x := ((zJ_copy σ 39 40 0 0 5) 39 (v1 + 1).toNatClampNeg)) (y := (-131073)) (z := (((zJ_copy σ 39 40 0 0 5) 39 (v1 + 1).toNatClampNeg) &&& (-131073))) zd_146_72 rfl]
    rw [zs_iload (ls := [some (.ref 35), some (.int v1), o2, some (.int v3), some (.int s0), o5, o6]) zd_146_73 rfl]
    rw [zs_bipush (z := 17) zd_146_75 (by decide)]
    rw [zp_ishl (x := s0) (y := 17) (z := (zJ_shl s0 17)) zd_146_77 rfl]
    rw [zp_ior (x := (((zJ_copy σ 39 40 0 0 5) 39 (v1 + 1).toNatClampNeg) &&& (-131073))) (y := (zJ_shl s0 17)) (z := ((((zJ_copy σ 39 40 0 0 5) 39 (v1 + 1).toNatClampNeg) &&& (-131073)) ||| (zJ_shl s0 17))) zd_146_78 rfl]
    by_cases c7 : 0 ≤ (v1 + 1) ∧ (v1 + 1) < 5
    · rw [if_pos c7] at H
      rw [zp_iastore (n := 119) (K := zx_pk (zK L) 119) (q := 40) (m := 5) (i := (v1 + 1)) (k := (v1 + 1).toNatClampNeg) (x := ((((zJ_copy σ 39 40 0 0 5) 39 (v1 + 1).toNatClampNeg) &&& (-131073)) ||| (zJ_shl s0 17))) (z := ((((zJ_copy σ 39 40 0 0 5) 39 (v1 + 1).toNatClampNeg) &&& (-131073)) ||| (zJ_shl s0 17))) zd_146_79 rfl ⟨by decide, by decide⟩ (zJ_in c7 rfl) rfl rfl]
      rw [zs_iconst (z := 1) zd_146_80 (by decide)]
      rw [zs_istore (x := 1) (ls' := [some (.ref 35), some (.int v1), o2, some (.int v3), some (.int s0), some (.int 1), o6]) zd_146_81 (Nat.le_of_ble_eq_true rfl) rfl]
      rw [zs_aload_n (ls := [some (.ref 35), some (.int v1), o2, some (.int v3), some (.int s0), some (.int 1), o6]) zd_146_83 rfl]
      rw [zs_getR (n := 119) (K := zx_pk (zK L) 119) (ρ := zR) (c := 2) (k := 0) (q := 35) (p := 4) zd_146_84 rfl rfl rfl (by decide) rfl]
      rw [zs_getR (n := 119) (K := zx_pk (zK L) 119) (ρ := zR) (c := 6) (k := 11) (q := 4) (p := 9) zd_146_87 rfl rfl rfl (by decide) rfl]
      rw [zs_iload_n (ls := [some (.ref 35), some (.int v1), o2, some (.int v3), some (.int s0), some (.int 1), o6]) zd_146_90 rfl]
      by_cases c8 : 0 ≤ v3 ∧ v3 < 97
      · rw [if_pos c8] at H
        rw [zp_iaload (n := 119) (K := zx_pk (zK L) 119) (σ := (zx_up (zJ_copy σ 39 40 0 0 5) 40 (v1 + 1).toNatClampNeg ((((zJ_copy σ 39 40 0 0 5) 39 (v1 + 1).toNatClampNeg) &&& (-131073)) ||| (zJ_shl s0 17)))) (q := 9) (m := 97) (i := v3) (k := v3.toNatClampNeg) (v := ((zJ_copy σ 39 40 0 0 5) 9 v3.toNatClampNeg)) zd_146_91 rfl (by decide) (zJ_in c8 rfl) rfl (show ((zx_up (zJ_copy σ 39 40 0 0 5) 40 (v1 + 1).toNatClampNeg ((((zJ_copy σ 39 40 0 0 5) 39 (v1 + 1).toNatClampNeg) &&& (-131073)) ||| (zJ_shl s0 17))) : zS) 9 v3.toNatClampNeg = ((zJ_copy σ 39 40 0 0 5) 9 v3.toNatClampNeg) from ((zx_up_ne (by decide)).trans rfl))]
        rw [zs_istore (x := ((zJ_copy σ 39 40 0 0 5) 9 v3.toNatClampNeg)) (ls' := [some (.ref 35), some (.int v1), o2, some (.int v3), some (.int s0), some (.int 1), some (.int ((zJ_copy σ 39 40 0 0 5) 9 v3.toNatClampNeg))]) zd_146_92 (Nat.le_of_ble_eq_true rfl) rfl]
        rw [zs_aload_n (ls := [some (.ref 35), some (.int v1), o2, some (.int v3), some (.int s0), some (.int 1), some (.int ((zJ_copy σ 39 40 0 0 5) 9 v3.toNatClampNeg))]) zd_146_94 rfl]
        rw [zs_iload_n (ls := [some (.ref 35), some (.int v1), o2, some (.int v3), some (.int s0), some (.int 1), some (.int ((zJ_copy σ 39 40 0 0 5) 9 v3.toNatClampNeg))]) zd_146_95 rfl]
        obtain ⟨r9, hr9, H⟩ := Option.bind_eq_some_iff.mp H
        rw [zp_callVi (x := r9) (st := [.int v1, .ref 35]) (as := [.ref 35, .int v1]) (rest := []) (e := 0) zd_146_96 rfl (by decide +kernel) (by decide) rfl rfl (Nat.le_of_ble_eq_true rfl) (zx_rcb_ok rfl (show 35 < 119 by decide)) (Nat.le_of_ble_eq_true rfl) rfl (by decide) (zt_Machine_howOf hr9)]
        rw [zs_iconst (z := 3) zd_146_99 (by decide)]
        by_cases c10 : ¬ r9 = 3
        · rw [if_pos c10] at H
          rw [zp_icmp_ne_t (x := r9) (y := 3) (t := 107) zd_146_100 rfl c10]
          rw [zs_aload_n (ls := [some (.ref 35), some (.int v1), o2, some (.int v3), some (.int s0), some (.int 1), some (.int ((zJ_copy σ 39 40 0 0 5) 9 v3.toNatClampNeg))]) zd_146_107 rfl]
          rw [zs_getR (n := 119) (K := zx_pk (zK L) 119) (ρ := zR) (c := 2) (k := 0) (q := 35) (p := 4) zd_146_108 rfl rfl rfl (by decide) rfl]
          rw [zs_getR (n := 119) (K := zx_pk (zK L) 119) (ρ := zR) (c := 6) (k := 9) (q := 4) (p := 7) zd_146_111 rfl rfl rfl (by decide) rfl]
          rw [zs_iload_n (ls := [some (.ref 35), some (.int v1), o2, some (.int v3), some (.int s0), some (.int 1), some (.int ((zJ_copy σ 39 40 0 0 5) 9 v3.toNatClampNeg))]) zd_146_114 rfl]
          by_cases c11 : 0 ≤ v3 ∧ v3 < 97
          · rw [if_pos c11] at H
            rw [zp_iaload (n := 119) (K := zx_pk (zK L) 119) (σ := (zx_up (zJ_copy σ 39 40 0 0 5) 40 (v1 + 1).toNatClampNeg ((((zJ_copy σ 39 40 0 0 5) 39 (v1 + 1).toNatClampNeg) &&& (-131073)) ||| (zJ_shl s0 17)))) (q := 7) (m := 97) (i := v3) (k := v3.toNatClampNeg) (v := ((zJ_copy σ 39 40 0 0 5) 7 v3.toNatClampNeg)) zd_146_115 rfl (by decide) (zJ_in c11 rfl) rfl (show ((zx_up (zJ_copy σ 39 40 0 0 5) 40 (v1 + 1).toNatClampNeg ((((zJ_copy σ 39 40 0 0 5) 39 (v1 + 1).toNatClampNeg) &&& (-131073)) ||| (zJ_shl s0 17))) : zS) 7 v3.toNatClampNeg = ((zJ_copy σ 39 40 0 0 5) 7 v3.toNatClampNeg) from ((zx_up_ne (by decide)).trans rfl))]
            exact zt_Machine_move_116  H
          · rw [if_neg c11] at H
            cases H
        · rw [if_neg c10] at H
          rw [zp_icmp_ne_f (x := r9) (y := 3) (t := 107) zd_146_100 rfl c10]
          rw [zs_iconst (z := (-1)) zd_146_103 (by decide)]
          rw [zs_goto (t := 116) zd_146_104 rfl]
          exact zt_Machine_move_116  H
      · rw [if_neg c8] at H
        cases H
    · rw [if_neg c7] at H
      cases H
  · rw [if_neg c6] at H
    cases H
set_option maxRecDepth 20000 in
theorem zt_Machine_move_38 {a b L N : Nat} {σ : zS} {τ : zT} {v1 : Int32} {v3 : Int32} {o2 : Option Value} {o4 : Option Value} {o5 : Option Value} {o6 : Option Value} {r : zS} (H : zb_Machine_move_38 N σ v1 v3 = some r) : zx_go 3 146 38 [some (.ref 35), some (.int v1), o2, some (.int v3), o4, o5, o6] [] ((119, a, b), zx_pk (zK L) 119, σ, τ, zR) = some (none, ((119, a, b), zx_pk (zK L) 119, r, τ, zR)) := by
  unfold zb_Machine_move_38 at H
  rw [zs_iconst (z := 0) zd_146_38 (by decide)]
  exact zt_Machine_move_39  H
set_option maxRecDepth 20000 in
theorem zt_Machine_move {a b L N : Nat} {σ : zS} {τ : zT} {x1 : Int32} {x2 : Int32} {r : zS} (H : zf_Machine_move N σ x1 x2 = some r) : zx_go 3 146 0 [some (.ref 35), some (.int x1), some (.int x2), none, none, none, none] [] ((119, a, b), zx_pk (zK L) 119, σ, τ, zR) = some (none, ((119, a, b), zx_pk (zK L) 119, r, τ, zR)) := by
  unfold zf_Machine_move at H
  rw [zs_iload_n (ls := [some (.ref 35), some (.int x1), some (.int x2), none, none, none, none]) zd_146_0 rfl]
  by_cases c1 : x1 < 0
  · rw [if_pos c1] at H
    rw [zp_if_lt_t (x := x1) (t := 9) zd_146_1 rfl c1]
    have H := Option.some.inj H
    subst H
    exact zs_return zd_146_9 (by decide +kernel)
  · rw [if_neg c1] at H
    rw [zp_if_lt_f (x := x1) (t := 9) zd_146_1 rfl c1]
    rw [zs_iload_n (ls := [some (.ref 35), some (.int x1), some (.int x2), none, none, none, none]) zd_146_4 rfl]
    rw [zs_iconst (z := 4) zd_146_5 (by decide)]
    by_cases c2 : x1 < 4
    · rw [if_pos c2] at H
      rw [zp_icmp_lt_t (x := x1) (y := 4) (t := 10) zd_146_6 rfl c2]
      rw [zs_aload_n (ls := [some (.ref 35), some (.int x1), some (.int x2), none, none, none, none]) zd_146_10 rfl]
      rw [zs_iload_n (ls := [some (.ref 35), some (.int x1), some (.int x2), none, none, none, none]) zd_146_11 rfl]
      obtain ⟨r3, hr3, H⟩ := Option.bind_eq_some_iff.mp H
      rw [zp_callVi (x := r3) (st := [.int x1, .ref 35]) (as := [.ref 35, .int x1]) (rest := []) (e := 0) zd_146_12 rfl (by decide +kernel) (by decide) rfl rfl (Nat.le_of_ble_eq_true rfl) (zx_rcb_ok rfl (show 35 < 119 by decide)) (Nat.le_of_ble_eq_true rfl) rfl (by decide) (zt_Machine_slotOf hr3)]
      rw [zs_istore_n (x := r3) (ls' := [some (.ref 35), some (.int x1), some (.int x2), some (.int r3), none, none, none]) zd_146_15 (Nat.le_of_ble_eq_true rfl) rfl]
      rw [zs_iload_n (ls := [some (.ref 35), some (.int x1), some (.int x2), some (.int r3), none, none, none]) zd_146_16 rfl]
      rw [zs_iconst (z := (-1)) zd_146_17 (by decide)]
      by_cases c4 : x2 = (-1)
      · rw [if_pos c4] at H
        rw [zp_icmp_eq_t (x := x2) (y := (-1)) (t := 38) zd_146_18 rfl c4]
        exact zt_Machine_move_38  H
      · rw [if_neg c4] at H
        rw [zp_icmp_eq_f (x := x2) (y := (-1)) (t := 38) zd_146_18 rfl c4]
        rw [zs_aload_n (ls := [some (.ref 35), some (.int x1), some (.int x2), some (.int r3), none, none, none]) zd_146_21 rfl]
        rw [zs_getR (n := 119) (K := zx_pk (zK L) 119) (ρ := zR) (c := 2) (k := 0) (q := 35) (p := 4) zd_146_22 rfl rfl rfl (by decide) rfl]
        rw [zs_getR (n := 119) (K := zx_pk (zK L) 119) (ρ := zR) (c := 6) (k := 14) (q := 4) (p := 12) zd_146_25 rfl rfl rfl (by decide) rfl]
        rw [zs_iload_n (ls := [some (.ref 35), some (.int x1), some (.int x2), some (.int r3), none, none, none]) zd_146_28 rfl]
        by_cases c50 : 0 ≤ r3 ∧ r3 < 97
        · rw [if_pos c50] at H
          rw [zp_iaload (n := 119) (K := zx_pk (zK L) 119) (σ := σ) (q := 12) (m := 97) (i := r3) (k := r3.toNatClampNeg) (v := (σ 12 r3.toNatClampNeg)) zd_146_29 rfl (by decide) (zJ_in c50 rfl) rfl rfl]
          rw [zs_iload_n (ls := [some (.ref 35), some (.int x1), some (.int x2), some (.int r3), none, none, none]) zd_146_30 rfl]
          by_cases c51 : ¬ (σ 12 r3.toNatClampNeg) = x2
          · rw [if_pos c51] at H
            rw [zp_icmp_ne_t (x := (σ 12 r3.toNatClampNeg)) (y := x2) (t := 38) zd_146_31 rfl c51]
            exact zt_Machine_move_38  H
          · rw [if_neg c51] at H
            rw [zp_icmp_ne_f (x := (σ 12 r3.toNatClampNeg)) (y := x2) (t := 38) zd_146_31 rfl c51]
            rw [zs_iconst (z := 1) zd_146_34 (by decide)]
            rw [zs_goto (t := 39) zd_146_35 rfl]
            exact zt_Machine_move_39  H
        · rw [if_neg c50] at H
          cases H
    · rw [if_neg c2] at H
      rw [zp_icmp_lt_f (x := x1) (y := 4) (t := 10) zd_146_6 rfl c2]
      have H := Option.some.inj H
      subst H
      exact zs_return zd_146_9 (by decide +kernel)
set_option maxRecDepth 20000 in
theorem zt_Space_exploreFrom_95 {a b L N : Nat} {k20 : zS → Int32 → Int32 → Int32 → Int32 → Int32 → Option (Int32 × zS)} (hk20 : ∀ {σ : zS} {τ : zT} {v1 : Int32} {v2 : Int32} {v3 : Int32} {v4 : Int32} {v5 : Int32} {o6 : Option Value} {r : Int32 × zS}, k20 σ v1 v2 v3 v4 v5 = some r → zx_go 4 136 20 [some (.ref 41), some (.int v1), some (.int v2), some (.int v3), some (.int v4), some (.int v5), o6] [] ((119, a, b), zx_pk (zK L) 119, σ, τ, zR) = some (some (.int r.1), ((119, a, b), zx_pk (zK L) 119, r.2, τ, zR))) {σ : zS} {τ : zT} {v1 : Int32} {v2 : Int32} {v3 : Int32} {v4 : Int32} {v5 : Int32} {o6 : Option Value} {r : Int32 × zS} (H : zb_Space_exploreFrom_95 k20 N σ v1 v2 v3 v4 v5 = some r) : zx_go 4 136 95 [some (.ref 41), some (.int v1), some (.int v2), some (.int v3), some (.int v4), some (.int v5), o6] [] ((119, a, b), zx_pk (zK L) 119, σ, τ, zR) = some (some (.int r.1), ((119, a, b), zx_pk (zK L) 119, r.2, τ, zR)) := by
  unfold zb_Space_exploreFrom_95 at H
  rw [zs_iinc (ls := [some (.ref 41), some (.int v1), some (.int v2), some (.int v3), some (.int v4), some (.int v5), o6]) (x := v5) (z := (v5 + 1)) (ls' := [some (.ref 41), some (.int v1), some (.int v2), some (.int v3), some (.int v4), some (.int (v5 + 1)), o6]) zd_136_95 rfl rfl rfl]
  rw [zs_goto (t := 20) zd_136_98 rfl]
  exact hk20 H
set_option maxRecDepth 20000 in
theorem zt_Space_exploreFrom_48 {a b L N : Nat} {k20 : zS → Int32 → Int32 → Int32 → Int32 → Int32 → Option (Int32 × zS)} (hk20 : ∀ {σ : zS} {τ : zT} {v1 : Int32} {v2 : Int32} {v3 : Int32} {v4 : Int32} {v5 : Int32} {o6 : Option Value} {r : Int32 × zS}, k20 σ v1 v2 v3 v4 v5 = some r → zx_go 4 136 20 [some (.ref 41), some (.int v1), some (.int v2), some (.int v3), some (.int v4), some (.int v5), o6] [] ((119, a, b), zx_pk (zK L) 119, σ, τ, zR) = some (some (.int r.1), ((119, a, b), zx_pk (zK L) 119, r.2, τ, zR))) {σ : zS} {τ : zT} {v1 : Int32} {v2 : Int32} {v3 : Int32} {v4 : Int32} {v5 : Int32} {s0 : Int32} {o6 : Option Value} {r : Int32 × zS} (H : zb_Space_exploreFrom_48 k20 N σ v1 v2 v3 v4 v5 s0 = some r) : zx_go 4 136 48 [some (.ref 41), some (.int v1), some (.int v2), some (.int v3), some (.int v4), some (.int v5), o6] [.int s0] ((119, a, b), zx_pk (zK L) 119, σ, τ, zR) = some (some (.int r.1), ((119, a, b), zx_pk (zK L) 119, r.2, τ, zR)) := by
  unfold zb_Space_exploreFrom_48 at H
  rw [zs_istore (x := s0) (ls' := [some (.ref 41), some (.int v1), some (.int v2), some (.int v3), some (.int v4), some (.int v5), some (.int s0)]) zd_136_48 (Nat.le_of_ble_eq_true rfl) rfl]
  rw [zs_iload (ls := [some (.ref 41), some (.int v1), some (.int v2), some (.int v3), some (.int v4), some (.int v5), some (.int s0)]) zd_136_50 rfl]
  by_cases c8 : s0 = 0
  · rw [if_pos c8] at H
    rw [zp_if_eq_t (x := s0) (t := 95) zd_136_52 rfl c8]
    exact zt_Space_exploreFrom_95 (hk20 := hk20) H
  · rw [if_neg c8] at H
    rw [zp_if_eq_f (x := s0) (t := 95) zd_136_52 rfl c8]
    rw [zs_aload_n (ls := [some (.ref 41), some (.int v1), some (.int v2), some (.int v3), some (.int v4), some (.int v5), some (.int s0)]) zd_136_55 rfl]
    rw [zs_getR (n := 119) (K := zx_pk (zK L) 119) (ρ := zR) (c := 8) (k := 1) (q := 41) (p := 35) zd_136_56 rfl rfl rfl (by decide) rfl]
    rw [zs_iload (ls := [some (.ref 41), some (.int v1), some (.int v2), some (.int v3), some (.int v4), some (.int v5), some (.int s0)]) zd_136_59 rfl]
    obtain ⟨r9, hr9, H⟩ := Option.bind_eq_some_iff.mp H
    rw [zp_callVi (x := r9) (st := [.int v5, .ref 35]) (as := [.ref 35, .int v5]) (rest := []) (e := 1) zd_136_61 rfl (by decide +kernel) (by decide) rfl rfl (Nat.le_of_ble_eq_true rfl) (zx_rcb_ok rfl (show 35 < 119 by decide)) (Nat.le_of_ble_eq_true rfl) rfl (by decide) (zt_Machine_canMove hr9)]
    by_cases c10 : r9 = 0
    · rw [if_pos c10] at H
      rw [zp_if_eq_t (x := r9) (t := 95) zd_136_64 rfl c10]
      exact zt_Space_exploreFrom_95 (hk20 := hk20) H
    · rw [if_neg c10] at H
      rw [zp_if_eq_f (x := r9) (t := 95) zd_136_64 rfl c10]
      rw [zs_iconst (z := 0) zd_136_67 (by decide)]
      rw [zs_istore (x := 0) (ls' := [some (.ref 41), some (.int v1), some (.int v2), some (.int v3), some (.int 0), some (.int v5), some (.int s0)]) zd_136_68 (Nat.le_of_ble_eq_true rfl) rfl]
      rw [zs_aload_n (ls := [some (.ref 41), some (.int v1), some (.int v2), some (.int v3), some (.int 0), some (.int v5), some (.int s0)]) zd_136_70 rfl]
      rw [zs_getR (n := 119) (K := zx_pk (zK L) 119) (ρ := zR) (c := 8) (k := 1) (q := 41) (p := 35) zd_136_71 rfl rfl rfl (by decide) rfl]
      rw [zs_iload (ls := [some (.ref 41), some (.int v1), some (.int v2), some (.int v3), some (.int 0), some (.int v5), some (.int s0)]) zd_136_74 rfl]
      rw [zs_iload_n (ls := [some (.ref 41), some (.int v1), some (.int v2), some (.int v3), some (.int 0), some (.int v5), some (.int s0)]) zd_136_76 rfl]
      obtain ⟨r11, hr11, H⟩ := Option.bind_eq_some_iff.mp H
      rw [zp_callVv (st := [.int v2, .int v5, .ref 35]) (as := [.ref 35, .int v5, .int v2]) (rest := []) (e := 3) zd_136_77 rfl (by decide +kernel) (by decide) rfl rfl (Nat.le_of_ble_eq_true rfl) (zx_rcb_ok rfl (show 35 < 119 by decide)) (Nat.le_of_ble_eq_true rfl) rfl (by decide) (zt_Machine_move hr11)]
      rw [zs_aload_n (ls := [some (.ref 41), some (.int v1), some (.int v2), some (.int v3), some (.int 0), some (.int v5), some (.int s0)]) zd_136_80 rfl]
      rw [zs_iload_n (ls := [some (.ref 41), some (.int v1), some (.int v2), some (.int v3), some (.int 0), some (.int v5), some (.int s0)]) zd_136_81 rfl]
      rw [zs_iconst (z := 4) zd_136_82 (by decide)]
      rw [zp_imul (x := v1) (y := 4) (z := (v1 * 4)) zd_136_83 rfl]
      rw [zs_iload (ls := [some (.ref 41), some (.int v1), some (.int v2), some (.int v3), some (.int 0), some (.int v5), some (.int s0)]) zd_136_84 rfl]
      rw [zp_iadd (x := (v1 * 4)) (y := v5) (z := ((v1 * 4) + v5)) zd_136_86 rfl]
      obtain ⟨r12, hr12, H⟩ := Option.bind_eq_some_iff.mp H
      rw [zp_callVi (x := r12.1) (st := [.int ((v1 * 4) + v5), .ref 41]) (as := [.ref 41, .int ((v1 * 4) + v5)]) (rest := []) (e := 3) zd_136_87 rfl (by decide +kernel) (by decide) rfl rfl (Nat.le_of_ble_eq_true rfl) (zx_rcb_ok rfl (show 41 < 119 by decide)) (Nat.le_of_ble_eq_true rfl) rfl (by decide) (zt_Space_note hr12)]
      by_cases c13 : ¬ r12.1 = 0
      · rw [if_pos c13] at H
        rw [zp_if_ne_t (x := r12.1) (t := 95) zd_136_90 rfl c13]
        exact zt_Space_exploreFrom_95 (hk20 := hk20) H
      · rw [if_neg c13] at H
        rw [zp_if_ne_f (x := r12.1) (t := 95) zd_136_90 rfl c13]
        rw [zs_iconst (z := 0) zd_136_93 (by decide)]
        have H := Option.some.inj H
        subst H
        exact zs_ireturn zd_136_94 (by decide +kernel)
set_option maxRecDepth 20000 in
theorem zt_Space_exploreFrom_43 {a b L N : Nat} {k20 : zS → Int32 → Int32 → Int32 → Int32 → Int32 → Option (Int32 × zS)} (hk20 : ∀ {σ : zS} {τ : zT} {v1 : Int32} {v2 : Int32} {v3 : Int32} {v4 : Int32} {v5 : Int32} {o6 : Option Value} {r : Int32 × zS}, k20 σ v1 v2 v3 v4 v5 = some r → zx_go 4 136 20 [some (.ref 41), some (.int v1), some (.int v2), some (.int v3), some (.int v4), some (.int v5), o6] [] ((119, a, b), zx_pk (zK L) 119, σ, τ, zR) = some (some (.int r.1), ((119, a, b), zx_pk (zK L) 119, r.2, τ, zR))) {σ : zS} {τ : zT} {v1 : Int32} {v2 : Int32} {v3 : Int32} {v4 : Int32} {v5 : Int32} {o6 : Option Value} {r : Int32 × zS} (H : zb_Space_exploreFrom_43 k20 N σ v1 v2 v3 v4 v5 = some r) : zx_go 4 136 43 [some (.ref 41), some (.int v1), some (.int v2), some (.int v3), some (.int v4), some (.int v5), o6] [] ((119, a, b), zx_pk (zK L) 119, σ, τ, zR) = some (some (.int r.1), ((119, a, b), zx_pk (zK L) 119, r.2, τ, zR)) := by
  unfold zb_Space_exploreFrom_43 at H
  rw [zs_iconst (z := 1) zd_136_43 (by decide)]
  rw [zs_goto (t := 48) zd_136_44 rfl]
  exact zt_Space_exploreFrom_48 (hk20 := hk20) H
set_option maxRecDepth 20000 in
theorem zt_Space_exploreFrom_20 {a b L N : Nat} : ∀ {n : Nat} {σ : zS} {τ : zT} {v1 : Int32} {v2 : Int32} {v3 : Int32} {v4 : Int32} {v5 : Int32} {o6 : Option Value} {r : Int32 × zS}, zb_Space_exploreFrom_20 N n σ v1 v2 v3 v4 v5 = some r → zx_go 4 136 20 [some (.ref 41), some (.int v1), some (.int v2), some (.int v3), some (.int v4), some (.int v5), o6] [] ((119, a, b), zx_pk (zK L) 119, σ, τ, zR) = some (some (.int r.1), ((119, a, b), zx_pk (zK L) 119, r.2, τ, zR)) := by
  intro n
  induction n with
  | zero =>
    intro _ _ _ _ _ _ _ _ _ H
    cases H
  | succ n ih =>
    intro σ τ v1 v2 v3 v4 v5 o6 r H
    rw [zb_Space_exploreFrom_20] at H
    rw [zs_iload (ls := [some (.ref 41), some (.int v1), some (.int v2), some (.int v3), some (.int v4), some (.int v5), o6]) zd_136_20 rfl]
    rw [zs_aload_n (ls := [some (.ref 41), some (.int v1), some (.int v2), some (.int v3), some (.int v4), some (.int v5), o6]) zd_136_22 rfl]
    rw [zs_getR (n := 119) (K := zx_pk (zK L) 119) (ρ := zR) (c := 8) (k := 0) (q := 41) (p := 4) zd_136_23 rfl rfl rfl (by decide) rfl]
    rw [zp_getI (n := 119) (K := zx_pk (zK L) 119) (σ := σ) (c := 6) (k := 2) (q := 4) (v := (σ 4 2)) zd_136_26 rfl rfl rfl (by decide) rfl]
    by_cases c3 : (σ 4 2) ≤ v5
    · rw [if_pos c3] at H
      rw [zp_icmp_ge_t (x := v5) (y := (σ 4 2)) (t := 101) zd_136_29 rfl c3]
      rw [zs_aload_n (ls := [some (.ref 41), some (.int v1), some (.int v2), some (.int v3), some (.int v4), some (.int v5), o6]) zd_136_101 rfl]
      rw [zs_iload_n (ls := [some (.ref 41), some (.int v1), some (.int v2), some (.int v3), some (.int v4), some (.int v5), o6]) zd_136_102 rfl]
      obtain ⟨r4, hr4, H⟩ := Option.bind_eq_some_iff.mp H
      rw [zp_callVi (x := r4) (st := [.int v1, .ref 41]) (as := [.ref 41, .int v1]) (rest := []) (e := 0) zd_136_103 rfl (by decide +kernel) (by decide) rfl rfl (Nat.le_of_ble_eq_true rfl) (zx_rcb_ok rfl (show 41 < 119 by decide)) (Nat.le_of_ble_eq_true rfl) rfl (by decide) (zt_Space_has hr4)]
      by_cases c5 : r4 = 0
      · rw [if_pos c5] at H
        rw [zp_if_eq_t (x := r4) (t := 117) zd_136_106 rfl c5]
        rw [zs_iconst (z := 1) zd_136_117 (by decide)]
        have H := Option.some.inj H
        subst H
        exact zs_ireturn zd_136_118 (by decide +kernel)
      · rw [if_neg c5] at H
        rw [zp_if_eq_f (x := r4) (t := 117) zd_136_106 rfl c5]
        rw [zs_aload_n (ls := [some (.ref 41), some (.int v1), some (.int v2), some (.int v3), some (.int v4), some (.int v5), o6]) zd_136_109 rfl]
        rw [zs_getR (n := 119) (K := zx_pk (zK L) 119) (ρ := zR) (c := 8) (k := 4) (q := 41) (p := 44) zd_136_110 rfl rfl rfl (by decide) rfl]
        rw [zs_iload_n (ls := [some (.ref 41), some (.int v1), some (.int v2), some (.int v3), some (.int v4), some (.int v5), o6]) zd_136_113 rfl]
        rw [zs_iload (ls := [some (.ref 41), some (.int v1), some (.int v2), some (.int v3), some (.int v4), some (.int v5), o6]) zd_136_114 rfl]
        by_cases c6 : 0 ≤ v1 ∧ v1 < 4000
        · rw [if_pos c6] at H
          rw [zp_zastore (n := 119) (K := zx_pk (zK L) 119) (q := 44) (m := 4000) (i := v1) (k := v1.toNatClampNeg) (x := v4) (z := (v4 &&& 1)) zd_136_116 rfl ⟨by decide, by decide⟩ (zJ_in c6 rfl) rfl rfl]
          rw [zs_iconst (z := 1) zd_136_117 (by decide)]
          have H := Option.some.inj H
          subst H
          exact zs_ireturn zd_136_118 (by decide +kernel)
        · rw [if_neg c6] at H
          cases H
    · rw [if_neg c3] at H
      rw [zp_icmp_ge_f (x := v5) (y := (σ 4 2)) (t := 101) zd_136_29 rfl c3]
      rw [zs_iload_n (ls := [some (.ref 41), some (.int v1), some (.int v2), some (.int v3), some (.int v4), some (.int v5), o6]) zd_136_32 rfl]
      rw [zs_iconst (z := (-1)) zd_136_33 (by decide)]
      by_cases c7 : v3 = (-1)
      · rw [if_pos c7] at H
        rw [zp_icmp_eq_t (x := v3) (y := (-1)) (t := 43) zd_136_34 rfl c7]
        exact zt_Space_exploreFrom_43 (hk20 := ih) H
      · rw [if_neg c7] at H
        rw [zp_icmp_eq_f (x := v3) (y := (-1)) (t := 43) zd_136_34 rfl c7]
        rw [zs_iload_n (ls := [some (.ref 41), some (.int v1), some (.int v2), some (.int v3), some (.int v4), some (.int v5), o6]) zd_136_37 rfl]
        rw [zs_iload (ls := [some (.ref 41), some (.int v1), some (.int v2), some (.int v3), some (.int v4), some (.int v5), o6]) zd_136_38 rfl]
        by_cases c14 : ¬ v3 = v5
        · rw [if_pos c14] at H
          rw [zp_icmp_ne_t (x := v3) (y := v5) (t := 47) zd_136_40 rfl c14]
          rw [zs_iconst (z := 0) zd_136_47 (by decide)]
          exact zt_Space_exploreFrom_48 (hk20 := ih) H
        · rw [if_neg c14] at H
          rw [zp_icmp_ne_f (x := v3) (y := v5) (t := 47) zd_136_40 rfl c14]
          exact zt_Space_exploreFrom_43 (hk20 := ih) H
set_option maxRecDepth 20000 in
theorem zt_Space_exploreFrom {a b L N : Nat} {σ : zS} {τ : zT} {x1 : Int32} {x2 : Int32} {r : Int32 × zS} (H : zf_Space_exploreFrom N σ x1 x2 = some r) : zx_go 4 136 0 [some (.ref 41), some (.int x1), some (.int x2), none, none, none, none] [] ((119, a, b), zx_pk (zK L) 119, σ, τ, zR) = some (some (.int r.1), ((119, a, b), zx_pk (zK L) 119, r.2, τ, zR)) := by
  unfold zf_Space_exploreFrom at H
  rw [zs_aload_n (ls := [some (.ref 41), some (.int x1), some (.int x2), none, none, none, none]) zd_136_0 rfl]
  rw [zs_iload_n (ls := [some (.ref 41), some (.int x1), some (.int x2), none, none, none, none]) zd_136_1 rfl]
  obtain ⟨r1, hr1, H⟩ := Option.bind_eq_some_iff.mp H
  rw [zp_callVv (st := [.int x1, .ref 41]) (as := [.ref 41, .int x1]) (rest := []) (e := 3) zd_136_2 rfl (by decide +kernel) (by decide) rfl rfl (Nat.le_of_ble_eq_true rfl) (zx_rcb_ok rfl (show 41 < 119 by decide)) (Nat.le_of_ble_eq_true rfl) rfl (by decide) (zt_Space_load hr1)]
  rw [zs_aload_n (ls := [some (.ref 41), some (.int x1), some (.int x2), none, none, none, none]) zd_136_5 rfl]
  rw [zs_getR (n := 119) (K := zx_pk (zK L) 119) (ρ := zR) (c := 8) (k := 1) (q := 41) (p := 35) zd_136_6 rfl rfl rfl (by decide) rfl]
  rw [zs_iload_n (ls := [some (.ref 41), some (.int x1), some (.int x2), none, none, none, none]) zd_136_9 rfl]
  obtain ⟨r2, hr2, H⟩ := Option.bind_eq_some_iff.mp H
  rw [zp_callVi (x := r2) (st := [.int x2, .ref 35]) (as := [.ref 35, .int x2]) (rest := []) (e := 2) zd_136_10 rfl (by decide +kernel) (by decide) rfl rfl (Nat.le_of_ble_eq_true rfl) (zx_rcb_ok rfl (show 35 < 119 by decide)) (Nat.le_of_ble_eq_true rfl) rfl (by decide) (zt_Machine_aloneIn hr2)]
  rw [zs_istore_n (x := r2) (ls' := [some (.ref 41), some (.int x1), some (.int x2), some (.int r2), none, none, none]) zd_136_13 (Nat.le_of_ble_eq_true rfl) rfl]
  rw [zs_iconst (z := 1) zd_136_14 (by decide)]
  rw [zs_istore (x := 1) (ls' := [some (.ref 41), some (.int x1), some (.int x2), some (.int r2), some (.int 1), none, none]) zd_136_15 (Nat.le_of_ble_eq_true rfl) rfl]
  rw [zs_iconst (z := 0) zd_136_17 (by decide)]
  rw [zs_istore (x := 0) (ls' := [some (.ref 41), some (.int x1), some (.int x2), some (.int r2), some (.int 1), some (.int 0), none]) zd_136_18 (Nat.le_of_ble_eq_true rfl) rfl]
  exact zt_Space_exploreFrom_20  H
set_option maxRecDepth 20000 in
theorem zt_Space_explore_28 {a b L N : Nat} : ∀ {n : Nat} {σ : zS} {τ : zT} {v1 : Int32} {v2 : Int32} {v3 : Int32} {r : Int32 × zS}, zb_Space_explore_28 N n σ v1 v2 v3 = some r → zx_go 5 129 28 [some (.ref 41), some (.int v1), some (.int v2), some (.int v3)] [] ((119, a, b), zx_pk (zK L) 119, σ, τ, zR) = some (some (.int r.1), ((119, a, b), zx_pk (zK L) 119, r.2, τ, zR)) := by
  intro n
  induction n with
  | zero =>
    intro _ _ _ _ _ _ H
    cases H
  | succ n ih =>
    intro σ τ v1 v2 v3 r H
    rw [zb_Space_explore_28] at H
    rw [zs_iload_n (ls := [some (.ref 41), some (.int v1), some (.int v2), some (.int v3)]) zd_129_28 rfl]
    rw [zs_aload_n (ls := [some (.ref 41), some (.int v1), some (.int v2), some (.int v3)]) zd_129_29 rfl]
    rw [zp_getI (n := 119) (K := zx_pk (zK L) 119) (σ := σ) (c := 8) (k := 6) (q := 41) (v := (σ 41 6)) zd_129_30 rfl rfl rfl (by decide) rfl]
    by_cases c4 : (σ 41 6) ≤ v3
    · rw [if_pos c4] at H
      rw [zp_icmp_ge_t (x := v3) (y := (σ 41 6)) (t := 60) zd_129_33 rfl c4]
      rw [zs_iload_n (ls := [some (.ref 41), some (.int v1), some (.int v2), some (.int v3)]) zd_129_60 rfl]
      by_cases c5 : v2 = 0 ∨ v2 = 1
      · rw [if_pos c5] at H
        have H := Option.some.inj H
        subst H
        exact zs_ireturn zd_129_61 (zJ_bt c5)
      · rw [if_neg c5] at H
        cases H
    · rw [if_neg c4] at H
      rw [zp_icmp_ge_f (x := v3) (y := (σ 41 6)) (t := 60) zd_129_33 rfl c4]
      rw [zs_iload_n (ls := [some (.ref 41), some (.int v1), some (.int v2), some (.int v3)]) zd_129_36 rfl]
      rw [zs_sipush (z := 4000) zd_129_37 (by decide)]
      by_cases c6 : 4000 ≤ v3
      · rw [if_pos c6] at H
        rw [zp_icmp_ge_t (x := v3) (y := 4000) (t := 60) zd_129_40 rfl c6]
        rw [zs_iload_n (ls := [some (.ref 41), some (.int v1), some (.int v2), some (.int v3)]) zd_129_60 rfl]
        by_cases c7 : v2 = 0 ∨ v2 = 1
        · rw [if_pos c7] at H
          have H := Option.some.inj H
          subst H
          exact zs_ireturn zd_129_61 (zJ_bt c7)
        · rw [if_neg c7] at H
          cases H
      · rw [if_neg c6] at H
        rw [zp_icmp_ge_f (x := v3) (y := 4000) (t := 60) zd_129_40 rfl c6]
        rw [zs_iload_n (ls := [some (.ref 41), some (.int v1), some (.int v2), some (.int v3)]) zd_129_43 rfl]
        by_cases c8 : v2 = 0
        · rw [if_pos c8] at H
          rw [zp_if_eq_t (x := v2) (t := 60) zd_129_44 rfl c8]
          rw [zs_iload_n (ls := [some (.ref 41), some (.int v1), some (.int v2), some (.int v3)]) zd_129_60 rfl]
          by_cases c9 : v2 = 0 ∨ v2 = 1
          · rw [if_pos c9] at H
            have H := Option.some.inj H
            subst H
            exact zs_ireturn zd_129_61 (zJ_bt c9)
          · rw [if_neg c9] at H
            cases H
        · rw [if_neg c8] at H
          rw [zp_if_eq_f (x := v2) (t := 60) zd_129_44 rfl c8]
          rw [zs_aload_n (ls := [some (.ref 41), some (.int v1), some (.int v2), some (.int v3)]) zd_129_47 rfl]
          rw [zs_iload_n (ls := [some (.ref 41), some (.int v1), some (.int v2), some (.int v3)]) zd_129_48 rfl]
          rw [zs_iload_n (ls := [some (.ref 41), some (.int v1), some (.int v2), some (.int v3)]) zd_129_49 rfl]
          obtain ⟨r10, hr10, H⟩ := Option.bind_eq_some_iff.mp H
          rw [zp_callVi (x := r10.1) (st := [.int v1, .int v3, .ref 41]) (as := [.ref 41, .int v3, .int v1]) (rest := []) (e := 4) zd_129_50 rfl (by decide +kernel) (by decide) rfl rfl (Nat.le_of_ble_eq_true rfl) (zx_rcb_ok rfl (show 41 < 119 by decide)) (Nat.le_of_ble_eq_true rfl) rfl (by decide) (zt_Space_exploreFrom hr10)]
          rw [zs_istore_n (x := r10.1) (ls' := [some (.ref 41), some (.int v1), some (.int r10.1), some (.int v3)]) zd_129_53 (Nat.le_of_ble_eq_true rfl) rfl]
          rw [zs_iinc (ls := [some (.ref 41), some (.int v1), some (.int r10.1), some (.int v3)]) (x := v3) (z := (v3 + 1)) (ls' := [some (.ref 41), some (.int v1), some (.int r10.1), some (.int (v3 + 1))]) zd_129_54 rfl rfl rfl]
          rw [zs_goto (t := 28) zd_129_57 rfl]
          exact ih H
set_option maxRecDepth 20000 in
theorem zt_Space_explore {a b L N : Nat} {σ : zS} {τ : zT} {x1 : Int32} {r : Int32 × zS} (H : zf_Space_explore N σ x1 = some r) : zx_go 5 129 0 [some (.ref 41), some (.int x1), none, none] [] ((119, a, b), zx_pk (zK L) 119, σ, τ, zR) = some (some (.int r.1), ((119, a, b), zx_pk (zK L) 119, r.2, τ, zR)) := by
  unfold zf_Space_explore at H
  rw [zs_aload_n (ls := [some (.ref 41), some (.int x1), none, none]) zd_129_0 rfl]
  rw [zs_iconst (z := 0) zd_129_1 (by decide)]
  rw [zs_putI (n := 119) (K := zx_pk (zK L) 119) (c := 8) (k := 6) (q := 41) (x := 0) zd_129_2 rfl rfl (by decide +kernel) rfl (by decide)]
  rw [zs_aload_n (ls := [some (.ref 41), some (.int x1), none, none]) zd_129_5 rfl]
  rw [zs_getR (n := 119) (K := zx_pk (zK L) 119) (ρ := zR) (c := 8) (k := 5) (q := 41) (p := 45) zd_129_6 rfl rfl rfl (by decide) rfl]
  rw [zs_iconst (z := 0) zd_129_9 (by decide)]
  obtain ⟨r1, hr1, H⟩ := Option.bind_eq_some_iff.mp H
  rw [zp_callSv (st := [.int 0, .ref 45]) (as := [.ref 45, .int 0]) (rest := []) (e := 0) zd_129_10 rfl (by decide +kernel) (by decide) rfl rfl (Nat.le_of_ble_eq_true rfl) rfl (Nat.le_of_ble_eq_true rfl) rfl (by decide) (zt_Arrays_fill_c3 hr1)]
  rw [zs_aload_n (ls := [some (.ref 41), some (.int x1), none, none]) zd_129_13 rfl]
  rw [zs_getR (n := 119) (K := zx_pk (zK L) 119) (ρ := zR) (c := 8) (k := 1) (q := 41) (p := 35) zd_129_14 rfl rfl rfl (by decide) rfl]
  obtain ⟨r2, hr2, H⟩ := Option.bind_eq_some_iff.mp H
  rw [zp_callVv (st := [.ref 35]) (as := [.ref 35]) (rest := []) (e := 1) zd_129_17 rfl (by decide +kernel) (by decide) rfl rfl (Nat.le_of_ble_eq_true rfl) (zx_rcb_ok rfl (show 35 < 119 by decide)) (Nat.le_of_ble_eq_true rfl) rfl (by decide) (zt_Machine_setFirst hr2)]
  rw [zs_aload_n (ls := [some (.ref 41), some (.int x1), none, none]) zd_129_20 rfl]
  rw [zs_iconst (z := 0) zd_129_21 (by decide)]
  obtain ⟨r3, hr3, H⟩ := Option.bind_eq_some_iff.mp H
  rw [zp_callVi (x := r3.1) (st := [.int 0, .ref 41]) (as := [.ref 41, .int 0]) (rest := []) (e := 3) zd_129_22 rfl (by decide +kernel) (by decide) rfl rfl (Nat.le_of_ble_eq_true rfl) (zx_rcb_ok rfl (show 41 < 119 by decide)) (Nat.le_of_ble_eq_true rfl) rfl (by decide) (zt_Space_note hr3)]
  rw [zs_istore_n (x := r3.1) (ls' := [some (.ref 41), some (.int x1), some (.int r3.1), none]) zd_129_25 (Nat.le_of_ble_eq_true rfl) rfl]
  rw [zs_iconst (z := 0) zd_129_26 (by decide)]
  rw [zs_istore_n (x := 0) (ls' := [some (.ref 41), some (.int x1), some (.int r3.1), some (.int 0)]) zd_129_27 (Nat.le_of_ble_eq_true rfl) rfl]
  exact zt_Space_explore_28  H
set_option maxRecDepth 20000 in
theorem zt_Numbers_clear {a b L : Nat} {σ : zS} {τ : zT} {r : zS} (H : zf_Numbers_clear σ = some r) : zx_go 0 158 0 [some (.ref 47)] [] ((119, a, b), zx_pk (zK L) 119, σ, τ, zR) = some (none, ((119, a, b), zx_pk (zK L) 119, r, τ, zR)) := by
  unfold zf_Numbers_clear at H
  rw [zs_aload_n (ls := [some (.ref 47)]) zd_158_0 rfl]
  rw [zs_iconst (z := 0) zd_158_1 (by decide)]
  rw [zs_putI (n := 119) (K := zx_pk (zK L) 119) (c := 4) (k := 1) (q := 47) (x := 0) zd_158_2 rfl rfl (by decide +kernel) rfl (by decide)]
  have H := Option.some.inj H
  subst H
  exact zs_return zd_158_5 (by decide +kernel)
set_option maxRecDepth 20000 in
theorem zt_Numbers_clear_c1 {a b L : Nat} {σ : zS} {τ : zT} {r : zS} (H : zf_Numbers_clear_c1 σ = some r) : zx_go 0 158 0 [some (.ref 49)] [] ((119, a, b), zx_pk (zK L) 119, σ, τ, zR) = some (none, ((119, a, b), zx_pk (zK L) 119, r, τ, zR)) := by
  unfold zf_Numbers_clear_c1 at H
  rw [zs_aload_n (ls := [some (.ref 49)]) zd_158_0 rfl]
  rw [zs_iconst (z := 0) zd_158_1 (by decide)]
  rw [zs_putI (n := 119) (K := zx_pk (zK L) 119) (c := 4) (k := 1) (q := 49) (x := 0) zd_158_2 rfl rfl (by decide +kernel) rfl (by decide)]
  have H := Option.some.inj H
  subst H
  exact zs_return zd_158_5 (by decide +kernel)
set_option maxRecDepth 20000 in
theorem zt_Numbers_clear_c2 {a b L : Nat} {σ : zS} {τ : zT} {r : zS} (H : zf_Numbers_clear_c2 σ = some r) : zx_go 0 158 0 [some (.ref 51)] [] ((119, a, b), zx_pk (zK L) 119, σ, τ, zR) = some (none, ((119, a, b), zx_pk (zK L) 119, r, τ, zR)) := by
  unfold zf_Numbers_clear_c2 at H
  rw [zs_aload_n (ls := [some (.ref 51)]) zd_158_0 rfl]
  rw [zs_iconst (z := 0) zd_158_1 (by decide)]
  rw [zs_putI (n := 119) (K := zx_pk (zK L) 119) (c := 4) (k := 1) (q := 51) (x := 0) zd_158_2 rfl rfl (by decide +kernel) rfl (by decide)]
  have H := Option.some.inj H
  subst H
  exact zs_return zd_158_5 (by decide +kernel)
set_option maxRecDepth 20000 in
theorem zt_Arrays_fill_c5_5 {a b L N : Nat} : ∀ {n : Nat} {σ : zS} {τ : zT} {v1 : Int32} {v2 : Int32} {v3 : Int32} {r : zS}, zb_Arrays_fill_c5_5 N n σ v1 v2 v3 = some r → zx_go 0 22 5 [some (.ref 57), some (.int v1), some (.int v2), some (.int v3)] [] ((119, a, b), zx_pk (zK L) 119, σ, τ, zR) = some (none, ((119, a, b), zx_pk (zK L) 119, r, τ, zR)) := by
  intro n
  induction n with
  | zero =>
    intro _ _ _ _ _ _ H
    cases H
  | succ n ih =>
    intro σ τ v1 v2 v3 r H
    rw [zb_Arrays_fill_c5_5] at H
    rw [zs_iload_n (ls := [some (.ref 57), some (.int v1), some (.int v2), some (.int v3)]) zd_22_5 rfl]
    rw [zs_iload_n (ls := [some (.ref 57), some (.int v1), some (.int v2), some (.int v3)]) zd_22_6 rfl]
    by_cases c1 : v3 ≤ v2
    · rw [if_pos c1] at H
      rw [zp_icmp_ge_t (x := v2) (y := v3) (t := 20) zd_22_7 rfl c1]
      have H := Option.some.inj H
      subst H
      exact zs_return zd_22_20 (by decide +kernel)
    · rw [if_neg c1] at H
      rw [zp_icmp_ge_f (x := v2) (y := v3) (t := 20) zd_22_7 rfl c1]
      rw [zs_aload_n (ls := [some (.ref 57), some (.int v1), some (.int v2), some (.int v3)]) zd_22_10 rfl]
      rw [zs_iload_n (ls := [some (.ref 57), some (.int v1), some (.int v2), some (.int v3)]) zd_22_11 rfl]
      rw [zs_iload_n (ls := [some (.ref 57), some (.int v1), some (.int v2), some (.int v3)]) zd_22_12 rfl]
      by_cases c2 : 0 ≤ v2 ∧ v2 < 9216
      · rw [if_pos c2] at H
        rw [zp_iastore (n := 119) (K := zx_pk (zK L) 119) (q := 57) (m := 9216) (i := v2) (k := v2.toNatClampNeg) (x := v1) (z := v1) zd_22_13 rfl ⟨by decide, by decide⟩ (zJ_in c2 rfl) rfl rfl]
        rw [zs_iinc (ls := [some (.ref 57), some (.int v1), some (.int v2), some (.int v3)]) (x := v2) (z := (v2 + 1)) (ls' := [some (.ref 57), some (.int v1), some (.int (v2 + 1)), some (.int v3)]) zd_22_14 rfl rfl rfl]
        rw [zs_goto (t := 5) zd_22_17 rfl]
        exact ih H
      · rw [if_neg c2] at H
        cases H
set_option maxRecDepth 20000 in
theorem zt_Arrays_fill_c5 {a b L N : Nat} {σ : zS} {τ : zT} {x2 : Int32} {r : zS} (H : zf_Arrays_fill_c5 N σ x2 = some r) : zx_go 0 22 0 [some (.ref 57), some (.int x2), none, none] [] ((119, a, b), zx_pk (zK L) 119, σ, τ, zR) = some (none, ((119, a, b), zx_pk (zK L) 119, r, τ, zR)) := by
  unfold zf_Arrays_fill_c5 at H
  rw [zs_iconst (z := 0) zd_22_0 (by decide)]
  rw [zs_istore_n (x := 0) (ls' := [some (.ref 57), some (.int x2), some (.int 0), none]) zd_22_1 (Nat.le_of_ble_eq_true rfl) rfl]
  rw [zs_aload_n (ls := [some (.ref 57), some (.int x2), some (.int 0), none]) zd_22_2 rfl]
  rw [zs_arraylength (n := 119) (K := zx_pk (zK L) 119) (q := 57) (m := 9216) (z := 9216) zd_22_3 rfl (by decide) (by decide)]
  rw [zs_istore_n (x := 9216) (ls' := [some (.ref 57), some (.int x2), some (.int 0), some (.int 9216)]) zd_22_4 (Nat.le_of_ble_eq_true rfl) rfl]
  exact zt_Arrays_fill_c5_5  H
set_option maxRecDepth 20000 in
theorem zt_Numbers_clear_c3 {a b L : Nat} {σ : zS} {τ : zT} {r : zS} (H : zf_Numbers_clear_c3 σ = some r) : zx_go 0 158 0 [some (.ref 53)] [] ((119, a, b), zx_pk (zK L) 119, σ, τ, zR) = some (none, ((119, a, b), zx_pk (zK L) 119, r, τ, zR)) := by
  unfold zf_Numbers_clear_c3 at H
  rw [zs_aload_n (ls := [some (.ref 53)]) zd_158_0 rfl]
  rw [zs_iconst (z := 0) zd_158_1 (by decide)]
  rw [zs_putI (n := 119) (K := zx_pk (zK L) 119) (c := 4) (k := 1) (q := 53) (x := 0) zd_158_2 rfl rfl (by decide +kernel) rfl (by decide)]
  have H := Option.some.inj H
  subst H
  exact zs_return zd_158_5 (by decide +kernel)
set_option maxRecDepth 20000 in
theorem zt_Numbers_clear_c4 {a b L : Nat} {σ : zS} {τ : zT} {r : zS} (H : zf_Numbers_clear_c4 σ = some r) : zx_go 0 158 0 [some (.ref 55)] [] ((119, a, b), zx_pk (zK L) 119, σ, τ, zR) = some (none, ((119, a, b), zx_pk (zK L) 119, r, τ, zR)) := by
  unfold zf_Numbers_clear_c4 at H
  rw [zs_aload_n (ls := [some (.ref 55)]) zd_158_0 rfl]
  rw [zs_iconst (z := 0) zd_158_1 (by decide)]
  rw [zs_putI (n := 119) (K := zx_pk (zK L) 119) (c := 4) (k := 1) (q := 55) (x := 0) zd_158_2 rfl rfl (by decide +kernel) rfl (by decide)]
  have H := Option.some.inj H
  subst H
  exact zs_return zd_158_5 (by decide +kernel)
set_option maxRecDepth 20000 in
theorem zt_Numbers_add {a b L : Nat} {σ : zS} {τ : zT} {x1 : Int32} {r : zS} (H : zf_Numbers_add σ x1 = some r) : zx_go 0 160 0 [some (.ref 53), some (.int x1)] [] ((119, a, b), zx_pk (zK L) 119, σ, τ, zR) = some (none, ((119, a, b), zx_pk (zK L) 119, r, τ, zR)) := by
  unfold zf_Numbers_add at H
  rw [zs_aload_n (ls := [some (.ref 53), some (.int x1)]) zd_160_0 rfl]
  rw [zp_getI (n := 119) (K := zx_pk (zK L) 119) (σ := σ) (c := 4) (k := 1) (q := 53) (v := (σ 53 1)) zd_160_1 rfl rfl rfl (by decide) rfl]
  by_cases c1 : (σ 53 1) < 0
  · rw [if_pos c1] at H
    rw [zp_if_lt_t (x := (σ 53 1)) (t := 39) zd_160_4 rfl c1]
    have H := Option.some.inj H
    subst H
    exact zs_return zd_160_39 (by decide +kernel)
  · rw [if_neg c1] at H
    rw [zp_if_lt_f (x := (σ 53 1)) (t := 39) zd_160_4 rfl c1]
    rw [zs_aload_n (ls := [some (.ref 53), some (.int x1)]) zd_160_7 rfl]
    rw [zp_getI (n := 119) (K := zx_pk (zK L) 119) (σ := σ) (c := 4) (k := 1) (q := 53) (v := (σ 53 1)) zd_160_8 rfl rfl rfl (by decide) rfl]
    rw [zs_aload_n (ls := [some (.ref 53), some (.int x1)]) zd_160_11 rfl]
    rw [zs_getR (n := 119) (K := zx_pk (zK L) 119) (ρ := zR) (c := 4) (k := 0) (q := 53) (p := 54) zd_160_12 rfl rfl rfl (by decide) rfl]
    rw [zs_arraylength (n := 119) (K := zx_pk (zK L) 119) (q := 54) (m := 3456) (z := 3456) zd_160_15 rfl (by decide) (by decide)]
    by_cases c2 : 3456 ≤ (σ 53 1)
    · rw [if_pos c2] at H
      rw [zp_icmp_ge_t (x := (σ 53 1)) (y := 3456) (t := 39) zd_160_16 rfl c2]
      have H := Option.some.inj H
      subst H
      exact zs_return zd_160_39 (by decide +kernel)
    · rw [if_neg c2] at H
      rw [zp_icmp_ge_f (x := (σ 53 1)) (y := 3456) (t := 39) zd_160_16 rfl c2]
      rw [zs_aload_n (ls := [some (.ref 53), some (.int x1)]) zd_160_19 rfl]
      rw [zs_getR (n := 119) (K := zx_pk (zK L) 119) (ρ := zR) (c := 4) (k := 0) (q := 53) (p := 54) zd_160_20 rfl rfl rfl (by decide) rfl]
      rw [zs_aload_n (ls := [some (.ref 53), some (.int x1)]) zd_160_23 rfl]
      rw [zp_getI (n := 119) (K := zx_pk (zK L) 119) (σ := σ) (c := 4) (k := 1) (q := 53) (v := (σ 53 1)) zd_160_24 rfl rfl rfl (by decide) rfl]
      rw [zs_iload_n (ls := [some (.ref 53), some (.int x1)]) zd_160_27 rfl]
      by_cases c3 : 0 ≤ (σ 53 1) ∧ (σ 53 1) < 3456
      · rw [if_pos c3] at H
        rw [zp_iastore (n := 119) (K := zx_pk (zK L) 119) (q := 54) (m := 3456) (i := (σ 53 1)) (k := (σ 53 1).toNatClampNeg) (x := x1) (z := x1) zd_160_28 rfl ⟨by decide, by decide⟩ (zJ_in c3 rfl) rfl rfl]
        rw [zs_aload_n (ls := [some (.ref 53), some (.int x1)]) zd_160_29 rfl]
        rw [zs_dup (a := .ref 53) zd_160_30 rfl]
        rw [zp_getI (n := 119) (K := zx_pk (zK L) 119) (σ := (zx_up σ 54 (σ 53 1).toNatClampNeg x1)) (c := 4) (k := 1) (q := 53) (v := (σ 53 1)) zd_160_31 rfl rfl rfl (by decide) (show ((zx_up σ 54 (σ 53 1).toNatClampNeg x1) : zS) 53 1 = (σ 53 1) from ((zx_up_ne (by decide)).trans rfl))]
        rw [zs_iconst (z := 1) zd_160_34 (by decide)]
        rw [zp_iadd (x := (σ 53 1)) (y := 1) (z := ((σ 53 1) + 1)) zd_160_35 rfl]
        rw [zs_putI (n := 119) (K := zx_pk (zK L) 119) (c := 4) (k := 1) (q := 53) (x := ((σ 53 1) + 1)) zd_160_36 rfl rfl (by decide +kernel) rfl (by decide)]
        have H := Option.some.inj H
        subst H
        exact zs_return zd_160_39 (by decide +kernel)
      · rw [if_neg c3] at H
        cases H
set_option maxRecDepth 20000 in
theorem zt_Numbers_add_c1 {a b L : Nat} {σ : zS} {τ : zT} {x1 : Int32} {r : zS} (H : zf_Numbers_add_c1 σ x1 = some r) : zx_go 0 160 0 [some (.ref 55), some (.int x1)] [] ((119, a, b), zx_pk (zK L) 119, σ, τ, zR) = some (none, ((119, a, b), zx_pk (zK L) 119, r, τ, zR)) := by
  unfold zf_Numbers_add_c1 at H
  rw [zs_aload_n (ls := [some (.ref 55), some (.int x1)]) zd_160_0 rfl]
  rw [zp_getI (n := 119) (K := zx_pk (zK L) 119) (σ := σ) (c := 4) (k := 1) (q := 55) (v := (σ 55 1)) zd_160_1 rfl rfl rfl (by decide) rfl]
  by_cases c1 : (σ 55 1) < 0
  · rw [if_pos c1] at H
    rw [zp_if_lt_t (x := (σ 55 1)) (t := 39) zd_160_4 rfl c1]
    have H := Option.some.inj H
    subst H
    exact zs_return zd_160_39 (by decide +kernel)
  · rw [if_neg c1] at H
    rw [zp_if_lt_f (x := (σ 55 1)) (t := 39) zd_160_4 rfl c1]
    rw [zs_aload_n (ls := [some (.ref 55), some (.int x1)]) zd_160_7 rfl]
    rw [zp_getI (n := 119) (K := zx_pk (zK L) 119) (σ := σ) (c := 4) (k := 1) (q := 55) (v := (σ 55 1)) zd_160_8 rfl rfl rfl (by decide) rfl]
    rw [zs_aload_n (ls := [some (.ref 55), some (.int x1)]) zd_160_11 rfl]
    rw [zs_getR (n := 119) (K := zx_pk (zK L) 119) (ρ := zR) (c := 4) (k := 0) (q := 55) (p := 56) zd_160_12 rfl rfl rfl (by decide) rfl]
    rw [zs_arraylength (n := 119) (K := zx_pk (zK L) 119) (q := 56) (m := 3456) (z := 3456) zd_160_15 rfl (by decide) (by decide)]
    by_cases c2 : 3456 ≤ (σ 55 1)
    · rw [if_pos c2] at H
      rw [zp_icmp_ge_t (x := (σ 55 1)) (y := 3456) (t := 39) zd_160_16 rfl c2]
      have H := Option.some.inj H
      subst H
      exact zs_return zd_160_39 (by decide +kernel)
    · rw [if_neg c2] at H
      rw [zp_icmp_ge_f (x := (σ 55 1)) (y := 3456) (t := 39) zd_160_16 rfl c2]
      rw [zs_aload_n (ls := [some (.ref 55), some (.int x1)]) zd_160_19 rfl]
      rw [zs_getR (n := 119) (K := zx_pk (zK L) 119) (ρ := zR) (c := 4) (k := 0) (q := 55) (p := 56) zd_160_20 rfl rfl rfl (by decide) rfl]
      rw [zs_aload_n (ls := [some (.ref 55), some (.int x1)]) zd_160_23 rfl]
      rw [zp_getI (n := 119) (K := zx_pk (zK L) 119) (σ := σ) (c := 4) (k := 1) (q := 55) (v := (σ 55 1)) zd_160_24 rfl rfl rfl (by decide) rfl]
      rw [zs_iload_n (ls := [some (.ref 55), some (.int x1)]) zd_160_27 rfl]
      by_cases c3 : 0 ≤ (σ 55 1) ∧ (σ 55 1) < 3456
      · rw [if_pos c3] at H
        rw [zp_iastore (n := 119) (K := zx_pk (zK L) 119) (q := 56) (m := 3456) (i := (σ 55 1)) (k := (σ 55 1).toNatClampNeg) (x := x1) (z := x1) zd_160_28 rfl ⟨by decide, by decide⟩ (zJ_in c3 rfl) rfl rfl]
        rw [zs_aload_n (ls := [some (.ref 55), some (.int x1)]) zd_160_29 rfl]
        rw [zs_dup (a := .ref 55) zd_160_30 rfl]
        rw [zp_getI (n := 119) (K := zx_pk (zK L) 119) (σ := (zx_up σ 56 (σ 55 1).toNatClampNeg x1)) (c := 4) (k := 1) (q := 55) (v := (σ 55 1)) zd_160_31 rfl rfl rfl (by decide) (show ((zx_up σ 56 (σ 55 1).toNatClampNeg x1) : zS) 55 1 = (σ 55 1) from ((zx_up_ne (by decide)).trans rfl))]
        rw [zs_iconst (z := 1) zd_160_34 (by decide)]
        rw [zp_iadd (x := (σ 55 1)) (y := 1) (z := ((σ 55 1) + 1)) zd_160_35 rfl]
        rw [zs_putI (n := 119) (K := zx_pk (zK L) 119) (c := 4) (k := 1) (q := 55) (x := ((σ 55 1) + 1)) zd_160_36 rfl rfl (by decide +kernel) rfl (by decide)]
        have H := Option.some.inj H
        subst H
        exact zs_return zd_160_39 (by decide +kernel)
      · rw [if_neg c3] at H
        cases H
set_option maxRecDepth 20000 in
theorem zt_Findings_listRaces_56 {a b L N : Nat} {k16 : zS → Int32 → Option (zS)} (hk16 : ∀ {σ : zS} {τ : zT} {v1 : Int32} {r : zS}, k16 σ v1 = some r → zx_go 1 167 16 [some (.ref 46), some (.int v1)] [] ((119, a, b), zx_pk (zK L) 119, σ, τ, zR) = some (none, ((119, a, b), zx_pk (zK L) 119, r, τ, zR))) {σ : zS} {τ : zT} {v1 : Int32} {r : zS} (H : zb_Findings_listRaces_56 k16 N σ v1 = some r) : zx_go 1 167 56 [some (.ref 46), some (.int v1)] [] ((119, a, b), zx_pk (zK L) 119, σ, τ, zR) = some (none, ((119, a, b), zx_pk (zK L) 119, r, τ, zR)) := by
  unfold zb_Findings_listRaces_56 at H
  rw [zs_iinc (ls := [some (.ref 46), some (.int v1)]) (x := v1) (z := (v1 + 1)) (ls' := [some (.ref 46), some (.int (v1 + 1))]) zd_167_56 rfl rfl rfl]
  rw [zs_goto (t := 16) zd_167_59 rfl]
  exact hk16 H
set_option maxRecDepth 20000 in
theorem zt_Findings_listRaces_16 {a b L N : Nat} : ∀ {n : Nat} {σ : zS} {τ : zT} {v1 : Int32} {r : zS}, zb_Findings_listRaces_16 N n σ v1 = some r → zx_go 1 167 16 [some (.ref 46), some (.int v1)] [] ((119, a, b), zx_pk (zK L) 119, σ, τ, zR) = some (none, ((119, a, b), zx_pk (zK L) 119, r, τ, zR)) := by
  intro n
  induction n with
  | zero =>
    intro _ _ _ _ H
    cases H
  | succ n ih =>
    intro σ τ v1 r H
    rw [zb_Findings_listRaces_16] at H
    rw [zs_iload_n (ls := [some (.ref 46), some (.int v1)]) zd_167_16 rfl]
    rw [zs_aload_n (ls := [some (.ref 46), some (.int v1)]) zd_167_17 rfl]
    rw [zs_getR (n := 119) (K := zx_pk (zK L) 119) (ρ := zR) (c := 0) (k := 8) (q := 46) (p := 57) zd_167_18 rfl rfl rfl (by decide) rfl]
    rw [zs_arraylength (n := 119) (K := zx_pk (zK L) 119) (q := 57) (m := 9216) (z := 9216) zd_167_21 rfl (by decide) (by decide)]
    by_cases c3 : 9216 ≤ v1
    · rw [if_pos c3] at H
      rw [zp_icmp_ge_t (x := v1) (y := 9216) (t := 62) zd_167_22 rfl c3]
      have H := Option.some.inj H
      subst H
      exact zs_return zd_167_62 (by decide +kernel)
    · rw [if_neg c3] at H
      rw [zp_icmp_ge_f (x := v1) (y := 9216) (t := 62) zd_167_22 rfl c3]
      rw [zs_aload_n (ls := [some (.ref 46), some (.int v1)]) zd_167_25 rfl]
      rw [zs_getR (n := 119) (K := zx_pk (zK L) 119) (ρ := zR) (c := 0) (k := 8) (q := 46) (p := 57) zd_167_26 rfl rfl rfl (by decide) rfl]
      rw [zs_iload_n (ls := [some (.ref 46), some (.int v1)]) zd_167_29 rfl]
      by_cases c4 : 0 ≤ v1 ∧ v1 < 9216
      · rw [if_pos c4] at H
        rw [zp_iaload (n := 119) (K := zx_pk (zK L) 119) (σ := σ) (q := 57) (m := 9216) (i := v1) (k := v1.toNatClampNeg) (v := (σ 57 v1.toNatClampNeg)) zd_167_30 rfl (by decide) (zJ_in c4 rfl) rfl rfl]
        rw [zs_iconst (z := (-1)) zd_167_31 (by decide)]
        by_cases c5 : (σ 57 v1.toNatClampNeg) = (-1)
        · rw [if_pos c5] at H
          rw [zp_icmp_eq_t (x := (σ 57 v1.toNatClampNeg)) (y := (-1)) (t := 56) zd_167_32 rfl c5]
          exact zt_Findings_listRaces_56 (hk16 := ih) H
        · rw [if_neg c5] at H
          rw [zp_icmp_eq_f (x := (σ 57 v1.toNatClampNeg)) (y := (-1)) (t := 56) zd_167_32 rfl c5]
          rw [zs_aload_n (ls := [some (.ref 46), some (.int v1)]) zd_167_35 rfl]
          rw [zs_getR (n := 119) (K := zx_pk (zK L) 119) (ρ := zR) (c := 0) (k := 5) (q := 46) (p := 53) zd_167_36 rfl rfl rfl (by decide) rfl]
          rw [zs_iload_n (ls := [some (.ref 46), some (.int v1)]) zd_167_39 rfl]
          obtain ⟨r6, hr6, H⟩ := Option.bind_eq_some_iff.mp H
          rw [zp_callVv (st := [.int v1, .ref 53]) (as := [.ref 53, .int v1]) (rest := []) (e := 0) zd_167_40 rfl (by decide +kernel) (by decide) rfl rfl (Nat.le_of_ble_eq_true rfl) (zx_rcb_ok rfl (show 53 < 119 by decide)) (Nat.le_of_ble_eq_true rfl) rfl (by decide) (zt_Numbers_add hr6)]
          rw [zs_aload_n (ls := [some (.ref 46), some (.int v1)]) zd_167_43 rfl]
          rw [zs_getR (n := 119) (K := zx_pk (zK L) 119) (ρ := zR) (c := 0) (k := 6) (q := 46) (p := 55) zd_167_44 rfl rfl rfl (by decide) rfl]
          rw [zs_aload_n (ls := [some (.ref 46), some (.int v1)]) zd_167_47 rfl]
          rw [zs_getR (n := 119) (K := zx_pk (zK L) 119) (ρ := zR) (c := 0) (k := 8) (q := 46) (p := 57) zd_167_48 rfl rfl rfl (by decide) rfl]
          rw [zs_iload_n (ls := [some (.ref 46), some (.int v1)]) zd_167_51 rfl]
          by_cases c7 : 0 ≤ v1 ∧ v1 < 9216
          · rw [if_pos c7] at H
            rw [zp_iaload (n := 119) (K := zx_pk (zK L) 119) (σ := r6) (q := 57) (m := 9216) (i := v1) (k := v1.toNatClampNeg) (v := (r6 57 v1.toNatClampNeg)) zd_167_52 rfl (by decide) (zJ_in c7 rfl) rfl rfl]
            obtain ⟨r8, hr8, H⟩ := Option.bind_eq_some_iff.mp H
            rw [zp_callVv (st := [.int (r6 57 v1.toNatClampNeg), .ref 55]) (as := [.ref 55, .int (r6 57 v1.toNatClampNeg)]) (rest := []) (e := 0) zd_167_53 rfl (by decide +kernel) (by decide) rfl rfl (Nat.le_of_ble_eq_true rfl) (zx_rcb_ok rfl (show 55 < 119 by decide)) (Nat.le_of_ble_eq_true rfl) rfl (by decide) (zt_Numbers_add_c1 hr8)]
            exact zt_Findings_listRaces_56 (hk16 := ih) H
          · rw [if_neg c7] at H
            cases H
      · rw [if_neg c4] at H
        cases H
set_option maxRecDepth 20000 in
theorem zt_Findings_listRaces {a b L N : Nat} {σ : zS} {τ : zT} {r : zS} (H : zf_Findings_listRaces N σ = some r) : zx_go 1 167 0 [some (.ref 46), none] [] ((119, a, b), zx_pk (zK L) 119, σ, τ, zR) = some (none, ((119, a, b), zx_pk (zK L) 119, r, τ, zR)) := by
  unfold zf_Findings_listRaces at H
  rw [zs_aload_n (ls := [some (.ref 46), none]) zd_167_0 rfl]
  rw [zs_getR (n := 119) (K := zx_pk (zK L) 119) (ρ := zR) (c := 0) (k := 5) (q := 46) (p := 53) zd_167_1 rfl rfl rfl (by decide) rfl]
  obtain ⟨r1, hr1, H⟩ := Option.bind_eq_some_iff.mp H
  rw [zp_callVv (st := [.ref 53]) (as := [.ref 53]) (rest := []) (e := 0) zd_167_4 rfl (by decide +kernel) (by decide) rfl rfl (Nat.le_of_ble_eq_true rfl) (zx_rcb_ok rfl (show 53 < 119 by decide)) (Nat.le_of_ble_eq_true rfl) rfl (by decide) (zt_Numbers_clear_c3 hr1)]
  rw [zs_aload_n (ls := [some (.ref 46), none]) zd_167_7 rfl]
  rw [zs_getR (n := 119) (K := zx_pk (zK L) 119) (ρ := zR) (c := 0) (k := 6) (q := 46) (p := 55) zd_167_8 rfl rfl rfl (by decide) rfl]
  obtain ⟨r2, hr2, H⟩ := Option.bind_eq_some_iff.mp H
  rw [zp_callVv (st := [.ref 55]) (as := [.ref 55]) (rest := []) (e := 0) zd_167_11 rfl (by decide +kernel) (by decide) rfl rfl (Nat.le_of_ble_eq_true rfl) (zx_rcb_ok rfl (show 55 < 119 by decide)) (Nat.le_of_ble_eq_true rfl) rfl (by decide) (zt_Numbers_clear_c4 hr2)]
  rw [zs_iconst (z := 0) zd_167_14 (by decide)]
  rw [zs_istore_n (x := 0) (ls' := [some (.ref 46), some (.int 0)]) zd_167_15 (Nat.le_of_ble_eq_true rfl) rfl]
  exact zt_Findings_listRaces_16  H
set_option maxRecDepth 20000 in
theorem zt_Numbers_clear_c5 {a b L : Nat} {σ : zS} {τ : zT} {r : zS} (H : zf_Numbers_clear_c5 σ = some r) : zx_go 0 158 0 [some (.ref 59)] [] ((119, a, b), zx_pk (zK L) 119, σ, τ, zR) = some (none, ((119, a, b), zx_pk (zK L) 119, r, τ, zR)) := by
  unfold zf_Numbers_clear_c5 at H
  rw [zs_aload_n (ls := [some (.ref 59)]) zd_158_0 rfl]
  rw [zs_iconst (z := 0) zd_158_1 (by decide)]
  rw [zs_putI (n := 119) (K := zx_pk (zK L) 119) (c := 4) (k := 1) (q := 59) (x := 0) zd_158_2 rfl rfl (by decide +kernel) rfl (by decide)]
  have H := Option.some.inj H
  subst H
  exact zs_return zd_158_5 (by decide +kernel)
set_option maxRecDepth 20000 in
theorem zt_Numbers_clear_c6 {a b L : Nat} {σ : zS} {τ : zT} {r : zS} (H : zf_Numbers_clear_c6 σ = some r) : zx_go 0 158 0 [some (.ref 61)] [] ((119, a, b), zx_pk (zK L) 119, σ, τ, zR) = some (none, ((119, a, b), zx_pk (zK L) 119, r, τ, zR)) := by
  unfold zf_Numbers_clear_c6 at H
  rw [zs_aload_n (ls := [some (.ref 61)]) zd_158_0 rfl]
  rw [zs_iconst (z := 0) zd_158_1 (by decide)]
  rw [zs_putI (n := 119) (K := zx_pk (zK L) 119) (c := 4) (k := 1) (q := 61) (x := 0) zd_158_2 rfl rfl (by decide +kernel) rfl (by decide)]
  have H := Option.some.inj H
  subst H
  exact zs_return zd_158_5 (by decide +kernel)
set_option maxRecDepth 20000 in
theorem zt_Arrays_fill_c6_5 {a b L N : Nat} : ∀ {n : Nat} {σ : zS} {τ : zT} {v1 : Int32} {v2 : Int32} {v3 : Int32} {r : zS}, zb_Arrays_fill_c6_5 N n σ v1 v2 v3 = some r → zx_go 0 22 5 [some (.ref 63), some (.int v1), some (.int v2), some (.int v3)] [] ((119, a, b), zx_pk (zK L) 119, σ, τ, zR) = some (none, ((119, a, b), zx_pk (zK L) 119, r, τ, zR)) := by
  intro n
  induction n with
  | zero =>
    intro _ _ _ _ _ _ H
    cases H
  | succ n ih =>
    intro σ τ v1 v2 v3 r H
    rw [zb_Arrays_fill_c6_5] at H
    rw [zs_iload_n (ls := [some (.ref 63), some (.int v1), some (.int v2), some (.int v3)]) zd_22_5 rfl]
    rw [zs_iload_n (ls := [some (.ref 63), some (.int v1), some (.int v2), some (.int v3)]) zd_22_6 rfl]
    by_cases c1 : v3 ≤ v2
    · rw [if_pos c1] at H
      rw [zp_icmp_ge_t (x := v2) (y := v3) (t := 20) zd_22_7 rfl c1]
      have H := Option.some.inj H
      subst H
      exact zs_return zd_22_20 (by decide +kernel)
    · rw [if_neg c1] at H
      rw [zp_icmp_ge_f (x := v2) (y := v3) (t := 20) zd_22_7 rfl c1]
      rw [zs_aload_n (ls := [some (.ref 63), some (.int v1), some (.int v2), some (.int v3)]) zd_22_10 rfl]
      rw [zs_iload_n (ls := [some (.ref 63), some (.int v1), some (.int v2), some (.int v3)]) zd_22_11 rfl]
      rw [zs_iload_n (ls := [some (.ref 63), some (.int v1), some (.int v2), some (.int v3)]) zd_22_12 rfl]
      by_cases c2 : 0 ≤ v2 ∧ v2 < 8192
      · rw [if_pos c2] at H
        rw [zp_iastore (n := 119) (K := zx_pk (zK L) 119) (q := 63) (m := 8192) (i := v2) (k := v2.toNatClampNeg) (x := v1) (z := v1) zd_22_13 rfl ⟨by decide, by decide⟩ (zJ_in c2 rfl) rfl rfl]
        rw [zs_iinc (ls := [some (.ref 63), some (.int v1), some (.int v2), some (.int v3)]) (x := v2) (z := (v2 + 1)) (ls' := [some (.ref 63), some (.int v1), some (.int (v2 + 1)), some (.int v3)]) zd_22_14 rfl rfl rfl]
        rw [zs_goto (t := 5) zd_22_17 rfl]
        exact ih H
      · rw [if_neg c2] at H
        cases H
