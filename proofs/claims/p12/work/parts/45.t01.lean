/-! theorems of the functions, by program -/
set_option maxRecDepth 20000 in
theorem zt_Reader_hasRoomForStep_18 {a b L : Nat} {σ : zS} {τ : zT} {o0 : Option Value} {r : Int32 × zS} (H : zb_Reader_hasRoomForStep_18 σ = some r) : zx_go 2 38 18 [o0] [] ((119, a, b), zx_pk (zK L) 119, σ, τ, zR) = some (some (.int r.1), ((119, a, b), zx_pk (zK L) 119, r.2, τ, zR)) := by
  unfold zb_Reader_hasRoomForStep_18 at H
  rw [zs_iconst (z := 1) zd_38_18 (by decide)]
  rw [zs_goto (t := 23) zd_38_19 rfl]
  have H := Option.some.inj H
  subst H
  exact zs_ireturn zd_38_23 (by decide +kernel)
set_option maxRecDepth 20000 in
theorem zt_Reader_hasRoomForStep {a b L : Nat} {σ : zS} {τ : zT} {r : Int32 × zS} (H : zf_Reader_hasRoomForStep σ = some r) : zx_go 2 38 0 [some (.ref 17)] [] ((119, a, b), zx_pk (zK L) 119, σ, τ, zR) = some (some (.int r.1), ((119, a, b), zx_pk (zK L) 119, r.2, τ, zR)) := by
  unfold zf_Reader_hasRoomForStep at H
  rw [zs_aload_n (ls := [some (.ref 17)]) zd_38_0 rfl]
  rw [zs_getR (n := 119) (K := zx_pk (zK L) 119) (ρ := zR) (c := 7) (k := 3) (q := 17) (p := 29) zd_38_1 rfl rfl rfl (by decide) rfl]
  obtain ⟨r1, hr1, H⟩ := Option.bind_eq_some_iff.mp H
  rw [zp_callVi (x := r1) (st := [.ref 29]) (as := [.ref 29]) (rest := []) (e := 1) zd_38_4 rfl (by decide +kernel) (by decide) rfl rfl (Nat.le_of_ble_eq_true rfl) (zx_rcb_ok rfl (show 29 < 119 by decide)) (Nat.le_of_ble_eq_true rfl) rfl (by decide) (zt_Weaver_hasRoom hr1)]
  by_cases c2 : ¬ r1 = 0
  · rw [if_pos c2] at H
    rw [zp_if_ne_t (x := r1) (t := 18) zd_38_7 rfl c2]
    exact zt_Reader_hasRoomForStep_18  H
  · rw [if_neg c2] at H
    rw [zp_if_ne_f (x := r1) (t := 18) zd_38_7 rfl c2]
    rw [zs_aload_n (ls := [some (.ref 17)]) zd_38_10 rfl]
    rw [zs_iconst (z := 4) zd_38_11 (by decide)]
    obtain ⟨r3, hr3, H⟩ := Option.bind_eq_some_iff.mp H
    rw [zp_callVi (x := r3.1) (st := [.int 4, .ref 17]) (as := [.ref 17, .int 4]) (rest := []) (e := 0) zd_38_12 rfl (by decide +kernel) (by decide) rfl rfl (Nat.le_of_ble_eq_true rfl) (zx_rcb_ok rfl (show 17 < 119 by decide)) (Nat.le_of_ble_eq_true rfl) rfl (by decide) (zt_Reader_failHere hr3)]
    by_cases c4 : r3.1 = 0
    · rw [if_pos c4] at H
      rw [zp_if_eq_t (x := r3.1) (t := 22) zd_38_15 rfl c4]
      rw [zs_iconst (z := 0) zd_38_22 (by decide)]
      have H := Option.some.inj H
      subst H
      exact zs_ireturn zd_38_23 (by decide +kernel)
    · rw [if_neg c4] at H
      rw [zp_if_eq_f (x := r3.1) (t := 22) zd_38_15 rfl c4]
      exact zt_Reader_hasRoomForStep_18  H
set_option maxRecDepth 20000 in
theorem zt_Weaver_closeOpen_70 {a b L N : Nat} {k2 : zS → Int32 → Int32 → Option (zS)} (hk2 : ∀ {σ : zS} {τ : zT} {v1 : Int32} {v2 : Int32} {o3 : Option Value} {r : zS}, k2 σ v1 v2 = some r → zx_go 0 46 2 [some (.ref 29), some (.int v1), some (.int v2), o3] [] ((119, a, b), zx_pk (zK L) 119, σ, τ, zR) = some (none, ((119, a, b), zx_pk (zK L) 119, r, τ, zR))) {σ : zS} {τ : zT} {v1 : Int32} {v2 : Int32} {o3 : Option Value} {r : zS} (H : zb_Weaver_closeOpen_70 k2 N σ v1 v2 = some r) : zx_go 0 46 70 [some (.ref 29), some (.int v1), some (.int v2), o3] [] ((119, a, b), zx_pk (zK L) 119, σ, τ, zR) = some (none, ((119, a, b), zx_pk (zK L) 119, r, τ, zR)) := by
  unfold zb_Weaver_closeOpen_70 at H
  rw [zs_iinc (ls := [some (.ref 29), some (.int v1), some (.int v2), o3]) (x := v2) (z := (v2 + 1)) (ls' := [some (.ref 29), some (.int v1), some (.int (v2 + 1)), o3]) zd_46_70 rfl rfl rfl]
  rw [zs_goto (t := 2) zd_46_73 rfl]
  exact hk2 H
set_option maxRecDepth 20000 in
theorem zt_Weaver_closeOpen_49 {a b L N : Nat} {k2 : zS → Int32 → Int32 → Option (zS)} (hk2 : ∀ {σ : zS} {τ : zT} {v1 : Int32} {v2 : Int32} {o3 : Option Value} {r : zS}, k2 σ v1 v2 = some r → zx_go 0 46 2 [some (.ref 29), some (.int v1), some (.int v2), o3] [] ((119, a, b), zx_pk (zK L) 119, σ, τ, zR) = some (none, ((119, a, b), zx_pk (zK L) 119, r, τ, zR))) {σ : zS} {τ : zT} {v1 : Int32} {v2 : Int32} {v3 : Int32} {r : zS} (H : zb_Weaver_closeOpen_49 k2 N σ v1 v2 v3 = some r) : zx_go 0 46 49 [some (.ref 29), some (.int v1), some (.int v2), some (.int v3)] [] ((119, a, b), zx_pk (zK L) 119, σ, τ, zR) = some (none, ((119, a, b), zx_pk (zK L) 119, r, τ, zR)) := by
  unfold zb_Weaver_closeOpen_49 at H
  rw [zs_aload_n (ls := [some (.ref 29), some (.int v1), some (.int v2), some (.int v3)]) zd_46_49 rfl]
  rw [zp_getI (n := 119) (K := zx_pk (zK L) 119) (σ := σ) (c := 10) (k := 10) (q := 29) (v := (σ 29 10)) zd_46_50 rfl rfl rfl (by decide) rfl]
  rw [zs_iload_n (ls := [some (.ref 29), some (.int v1), some (.int v2), some (.int v3)]) zd_46_53 rfl]
  rw [zp_iushr (x := (σ 29 10)) (y := v2) (z := (zJ_ushr (σ 29 10) v2)) zd_46_54 rfl]
  rw [zs_iconst (z := 1) zd_46_55 (by decide)]
  rw [zp_iand (x := (zJ_ushr (σ 29 10) v2)) (y := 1) (z := ((zJ_ushr (σ 29 10) v2) &&& 1)) zd_46_56 rfl]
  by_cases c5 : ((zJ_ushr (σ 29 10) v2) &&& 1) = 0
  · rw [if_pos c5] at H
    rw [zp_if_eq_t (x := ((zJ_ushr (σ 29 10) v2) &&& 1)) (t := 70) zd_46_57 rfl c5]
    exact zt_Weaver_closeOpen_70 (hk2 := hk2) H
  · rw [if_neg c5] at H
    rw [zp_if_eq_f (x := ((zJ_ushr (σ 29 10) v2) &&& 1)) (t := 70) zd_46_57 rfl c5]
    rw [zs_aload_n (ls := [some (.ref 29), some (.int v1), some (.int v2), some (.int v3)]) zd_46_60 rfl]
    rw [zs_getR (n := 119) (K := zx_pk (zK L) 119) (ρ := zR) (c := 10) (k := 0) (q := 29) (p := 4) zd_46_61 rfl rfl rfl (by decide) rfl]
    rw [zs_getR (n := 119) (K := zx_pk (zK L) 119) (ρ := zR) (c := 6) (k := 12) (q := 4) (p := 10) zd_46_64 rfl rfl rfl (by decide) rfl]
    rw [zs_iload_n (ls := [some (.ref 29), some (.int v1), some (.int v2), some (.int v3)]) zd_46_67 rfl]
    rw [zs_iload_n (ls := [some (.ref 29), some (.int v1), some (.int v2), some (.int v3)]) zd_46_68 rfl]
    by_cases c6 : 0 ≤ v3 ∧ v3 < 97
    · rw [if_pos c6] at H
      rw [zp_iastore (n := 119) (K := zx_pk (zK L) 119) (q := 10) (m := 97) (i := v3) (k := v3.toNatClampNeg) (x := v1) (z := v1) zd_46_69 rfl ⟨by decide, by decide⟩ (zJ_in c6 rfl) rfl rfl]
      exact zt_Weaver_closeOpen_70 (hk2 := hk2) H
    · rw [if_neg c6] at H
      cases H
set_option maxRecDepth 20000 in
theorem zt_Weaver_closeOpen_2 {a b L N : Nat} : ∀ {n : Nat} {σ : zS} {τ : zT} {v1 : Int32} {v2 : Int32} {o3 : Option Value} {r : zS}, zb_Weaver_closeOpen_2 N n σ v1 v2 = some r → zx_go 0 46 2 [some (.ref 29), some (.int v1), some (.int v2), o3] [] ((119, a, b), zx_pk (zK L) 119, σ, τ, zR) = some (none, ((119, a, b), zx_pk (zK L) 119, r, τ, zR)) := by
  intro n
  induction n with
  | zero =>
    intro _ _ _ _ _ _ H
    cases H
  | succ n ih =>
    intro σ τ v1 v2 o3 r H
    rw [zb_Weaver_closeOpen_2] at H
    rw [zs_iload_n (ls := [some (.ref 29), some (.int v1), some (.int v2), o3]) zd_46_2 rfl]
    rw [zs_bipush (z := 24) zd_46_3 (by decide)]
    by_cases c1 : 24 ≤ v2
    · rw [if_pos c1] at H
      rw [zp_icmp_ge_t (x := v2) (y := 24) (t := 76) zd_46_5 rfl c1]
      rw [zs_aload_n (ls := [some (.ref 29), some (.int v1), some (.int v2), o3]) zd_46_76 rfl]
      rw [zs_iconst (z := 0) zd_46_77 (by decide)]
      rw [zs_putI (n := 119) (K := zx_pk (zK L) 119) (c := 10) (k := 9) (q := 29) (x := 0) zd_46_78 rfl rfl (by decide +kernel) rfl (by decide)]
      rw [zs_aload_n (ls := [some (.ref 29), some (.int v1), some (.int v2), o3]) zd_46_81 rfl]
      rw [zs_iconst (z := 0) zd_46_82 (by decide)]
      rw [zs_putI (n := 119) (K := zx_pk (zK L) 119) (c := 10) (k := 10) (q := 29) (x := 0) zd_46_83 rfl rfl (by decide +kernel) rfl (by decide)]
      have H := Option.some.inj H
      subst H
      exact zs_return zd_46_86 (by decide +kernel)
    · rw [if_neg c1] at H
      rw [zp_icmp_ge_f (x := v2) (y := 24) (t := 76) zd_46_5 rfl c1]
      rw [zs_aload_n (ls := [some (.ref 29), some (.int v1), some (.int v2), o3]) zd_46_8 rfl]
      rw [zp_getI (n := 119) (K := zx_pk (zK L) 119) (σ := σ) (c := 10) (k := 8) (q := 29) (v := (σ 29 8)) zd_46_9 rfl rfl rfl (by decide) rfl]
      rw [zs_bipush (z := 24) zd_46_12 (by decide)]
      rw [zp_imul (x := (σ 29 8)) (y := 24) (z := ((σ 29 8) * 24)) zd_46_14 rfl]
      rw [zs_iload_n (ls := [some (.ref 29), some (.int v1), some (.int v2), o3]) zd_46_15 rfl]
      rw [zp_iadd (x := ((σ 29 8) * 24)) (y := v2) (z := (((σ 29 8) * 24) + v2)) zd_46_16 rfl]
      rw [zs_istore_n (x := (((σ 29 8) * 24) + v2)) (ls' := [some (.ref 29), some (.int v1), some (.int v2), some (.int (((σ 29 8) * 24) + v2))]) zd_46_17 (Nat.le_of_ble_eq_true rfl) rfl]
      rw [zs_iload_n (ls := [some (.ref 29), some (.int v1), some (.int v2), some (.int (((σ 29 8) * 24) + v2))]) zd_46_18 rfl]
      by_cases c2 : (((σ 29 8) * 24) + v2) < 0
      · rw [if_pos c2] at H
        rw [zp_if_lt_t (x := (((σ 29 8) * 24) + v2)) (t := 70) zd_46_19 rfl c2]
        exact zt_Weaver_closeOpen_70 (hk2 := ih) H
      · rw [if_neg c2] at H
        rw [zp_if_lt_f (x := (((σ 29 8) * 24) + v2)) (t := 70) zd_46_19 rfl c2]
        rw [zs_iload_n (ls := [some (.ref 29), some (.int v1), some (.int v2), some (.int (((σ 29 8) * 24) + v2))]) zd_46_22 rfl]
        rw [zs_bipush (z := 96) zd_46_23 (by decide)]
        by_cases c3 : 96 ≤ (((σ 29 8) * 24) + v2)
        · rw [if_pos c3] at H
          rw [zp_icmp_ge_t (x := (((σ 29 8) * 24) + v2)) (y := 96) (t := 70) zd_46_25 rfl c3]
          exact zt_Weaver_closeOpen_70 (hk2 := ih) H
        · rw [if_neg c3] at H
          rw [zp_icmp_ge_f (x := (((σ 29 8) * 24) + v2)) (y := 96) (t := 70) zd_46_25 rfl c3]
          rw [zs_aload_n (ls := [some (.ref 29), some (.int v1), some (.int v2), some (.int (((σ 29 8) * 24) + v2))]) zd_46_28 rfl]
          rw [zp_getI (n := 119) (K := zx_pk (zK L) 119) (σ := σ) (c := 10) (k := 9) (q := 29) (v := (σ 29 9)) zd_46_29 rfl rfl rfl (by decide) rfl]
          rw [zs_iload_n (ls := [some (.ref 29), some (.int v1), some (.int v2), some (.int (((σ 29 8) * 24) + v2))]) zd_46_32 rfl]
          rw [zp_iushr (x := (σ 29 9)) (y := v2) (z := (zJ_ushr (σ 29 9) v2)) zd_46_33 rfl]
          rw [zs_iconst (z := 1) zd_46_34 (by decide)]
          rw [zp_iand (x := (zJ_ushr (σ 29 9) v2)) (y := 1) (z := ((zJ_ushr (σ 29 9) v2) &&& 1)) zd_46_35 rfl]
          by_cases c4 : ((zJ_ushr (σ 29 9) v2) &&& 1) = 0
          · rw [if_pos c4] at H
            rw [zp_if_eq_t (x := ((zJ_ushr (σ 29 9) v2) &&& 1)) (t := 49) zd_46_36 rfl c4]
            exact zt_Weaver_closeOpen_49 (hk2 := ih) H
          · rw [if_neg c4] at H
            rw [zp_if_eq_f (x := ((zJ_ushr (σ 29 9) v2) &&& 1)) (t := 49) zd_46_36 rfl c4]
            rw [zs_aload_n (ls := [some (.ref 29), some (.int v1), some (.int v2), some (.int (((σ 29 8) * 24) + v2))]) zd_46_39 rfl]
            rw [zs_getR (n := 119) (K := zx_pk (zK L) 119) (ρ := zR) (c := 10) (k := 0) (q := 29) (p := 4) zd_46_40 rfl rfl rfl (by decide) rfl]
            rw [zs_getR (n := 119) (K := zx_pk (zK L) 119) (ρ := zR) (c := 6) (k := 11) (q := 4) (p := 9) zd_46_43 rfl rfl rfl (by decide) rfl]
            rw [zs_iload_n (ls := [some (.ref 29), some (.int v1), some (.int v2), some (.int (((σ 29 8) * 24) + v2))]) zd_46_46 rfl]
            rw [zs_iload_n (ls := [some (.ref 29), some (.int v1), some (.int v2), some (.int (((σ 29 8) * 24) + v2))]) zd_46_47 rfl]
            by_cases c7 : 0 ≤ (((σ 29 8) * 24) + v2) ∧ (((σ 29 8) * 24) + v2) < 97
            · rw [if_pos c7] at H
              rw [zp_iastore (n := 119) (K := zx_pk (zK L) 119) (q := 9) (m := 97) (i := (((σ 29 8) * 24) + v2)) (k := (((σ 29 8) * 24) + v2).toNatClampNeg) (x := v1) (z := v1) zd_46_48 rfl ⟨by decide, by decide⟩ (zJ_in c7 rfl) rfl rfl]
              exact zt_Weaver_closeOpen_49 (hk2 := ih) H
            · rw [if_neg c7] at H
              cases H
set_option maxRecDepth 20000 in
theorem zt_Weaver_closeOpen {a b L N : Nat} {σ : zS} {τ : zT} {x1 : Int32} {r : zS} (H : zf_Weaver_closeOpen N σ x1 = some r) : zx_go 0 46 0 [some (.ref 29), some (.int x1), none, none] [] ((119, a, b), zx_pk (zK L) 119, σ, τ, zR) = some (none, ((119, a, b), zx_pk (zK L) 119, r, τ, zR)) := by
  unfold zf_Weaver_closeOpen at H
  rw [zs_iconst (z := 0) zd_46_0 (by decide)]
  rw [zs_istore_n (x := 0) (ls' := [some (.ref 29), some (.int x1), some (.int 0), none]) zd_46_1 (Nat.le_of_ble_eq_true rfl) rfl]
  exact zt_Weaver_closeOpen_2  H
set_option maxRecDepth 20000 in
theorem zt_Program_addStep {a b L : Nat} {σ : zS} {τ : zT} {x1 : Int32} {x2 : Int32} {x3 : Int32} {x4 : Int32} {x5 : Int32} {r : Int32 × zS} (H : zf_Program_addStep σ x1 x2 x3 x4 x5 = some r) : zx_go 0 49 0 [some (.ref 4), some (.int x1), some (.int x2), some (.int x3), some (.int x4), some (.int x5), none, none] [] ((119, a, b), zx_pk (zK L) 119, σ, τ, zR) = some (some (.int r.1), ((119, a, b), zx_pk (zK L) 119, r.2, τ, zR)) := by
  unfold zf_Program_addStep at H
  rw [zs_iload_n (ls := [some (.ref 4), some (.int x1), some (.int x2), some (.int x3), some (.int x4), some (.int x5), none, none]) zd_49_0 rfl]
  by_cases c1 : x1 < 0
  · rw [if_pos c1] at H
    rw [zp_if_lt_t (x := x1) (t := 29) zd_49_1 rfl c1]
    rw [zs_iconst (z := (-1)) zd_49_29 (by decide)]
    have H := Option.some.inj H
    subst H
    exact zs_ireturn zd_49_30 (by decide +kernel)
  · rw [if_neg c1] at H
    rw [zp_if_lt_f (x := x1) (t := 29) zd_49_1 rfl c1]
    rw [zs_iload_n (ls := [some (.ref 4), some (.int x1), some (.int x2), some (.int x3), some (.int x4), some (.int x5), none, none]) zd_49_4 rfl]
    rw [zs_iconst (z := 4) zd_49_5 (by decide)]
    by_cases c2 : 4 ≤ x1
    · rw [if_pos c2] at H
      rw [zp_icmp_ge_t (x := x1) (y := 4) (t := 29) zd_49_6 rfl c2]
      rw [zs_iconst (z := (-1)) zd_49_29 (by decide)]
      have H := Option.some.inj H
      subst H
      exact zs_ireturn zd_49_30 (by decide +kernel)
    · rw [if_neg c2] at H
      rw [zp_icmp_ge_f (x := x1) (y := 4) (t := 29) zd_49_6 rfl c2]
      rw [zs_aload_n (ls := [some (.ref 4), some (.int x1), some (.int x2), some (.int x3), some (.int x4), some (.int x5), none, none]) zd_49_9 rfl]
      rw [zs_getR (n := 119) (K := zx_pk (zK L) 119) (ρ := zR) (c := 6) (k := 7) (q := 4) (p := 5) zd_49_10 rfl rfl rfl (by decide) rfl]
      rw [zs_iload_n (ls := [some (.ref 4), some (.int x1), some (.int x2), some (.int x3), some (.int x4), some (.int x5), none, none]) zd_49_13 rfl]
      by_cases c3 : 0 ≤ x1 ∧ x1 < 4
      · rw [if_pos c3] at H
        rw [zp_iaload (n := 119) (K := zx_pk (zK L) 119) (σ := σ) (q := 5) (m := 4) (i := x1) (k := x1.toNatClampNeg) (v := (σ 5 x1.toNatClampNeg)) zd_49_14 rfl (by decide) (zJ_in c3 rfl) rfl rfl]
        by_cases c4 : (σ 5 x1.toNatClampNeg) < 0
        · rw [if_pos c4] at H
          rw [zp_if_lt_t (x := (σ 5 x1.toNatClampNeg)) (t := 29) zd_49_15 rfl c4]
          rw [zs_iconst (z := (-1)) zd_49_29 (by decide)]
          have H := Option.some.inj H
          subst H
          exact zs_ireturn zd_49_30 (by decide +kernel)
        · rw [if_neg c4] at H
          rw [zp_if_lt_f (x := (σ 5 x1.toNatClampNeg)) (t := 29) zd_49_15 rfl c4]
          rw [zs_aload_n (ls := [some (.ref 4), some (.int x1), some (.int x2), some (.int x3), some (.int x4), some (.int x5), none, none]) zd_49_18 rfl]
          rw [zs_getR (n := 119) (K := zx_pk (zK L) 119) (ρ := zR) (c := 6) (k := 7) (q := 4) (p := 5) zd_49_19 rfl rfl rfl (by decide) rfl]
          rw [zs_iload_n (ls := [some (.ref 4), some (.int x1), some (.int x2), some (.int x3), some (.int x4), some (.int x5), none, none]) zd_49_22 rfl]
          by_cases c5 : 0 ≤ x1 ∧ x1 < 4
          · rw [if_pos c5] at H
            rw [zp_iaload (n := 119) (K := zx_pk (zK L) 119) (σ := σ) (q := 5) (m := 4) (i := x1) (k := x1.toNatClampNeg) (v := (σ 5 x1.toNatClampNeg)) zd_49_23 rfl (by decide) (zJ_in c5 rfl) rfl rfl]
            rw [zs_bipush (z := 24) zd_49_24 (by decide)]
            by_cases c6 : (σ 5 x1.toNatClampNeg) < 24
            · rw [if_pos c6] at H
              rw [zp_icmp_lt_t (x := (σ 5 x1.toNatClampNeg)) (y := 24) (t := 31) zd_49_26 rfl c6]
              rw [zs_aload_n (ls := [some (.ref 4), some (.int x1), some (.int x2), some (.int x3), some (.int x4), some (.int x5), none, none]) zd_49_31 rfl]
              rw [zs_getR (n := 119) (K := zx_pk (zK L) 119) (ρ := zR) (c := 6) (k := 7) (q := 4) (p := 5) zd_49_32 rfl rfl rfl (by decide) rfl]
              rw [zs_iload_n (ls := [some (.ref 4), some (.int x1), some (.int x2), some (.int x3), some (.int x4), some (.int x5), none, none]) zd_49_35 rfl]
              by_cases c7 : 0 ≤ x1 ∧ x1 < 4
              · rw [if_pos c7] at H
                rw [zp_iaload (n := 119) (K := zx_pk (zK L) 119) (σ := σ) (q := 5) (m := 4) (i := x1) (k := x1.toNatClampNeg) (v := (σ 5 x1.toNatClampNeg)) zd_49_36 rfl (by decide) (zJ_in c7 rfl) rfl rfl]
                rw [zs_istore (x := (σ 5 x1.toNatClampNeg)) (ls' := [some (.ref 4), some (.int x1), some (.int x2), some (.int x3), some (.int x4), some (.int x5), some (.int (σ 5 x1.toNatClampNeg)), none]) zd_49_37 (Nat.le_of_ble_eq_true rfl) rfl]
                rw [zs_iload_n (ls := [some (.ref 4), some (.int x1), some (.int x2), some (.int x3), some (.int x4), some (.int x5), some (.int (σ 5 x1.toNatClampNeg)), none]) zd_49_39 rfl]
                rw [zs_bipush (z := 24) zd_49_40 (by decide)]
                rw [zp_imul (x := x1) (y := 24) (z := (x1 * 24)) zd_49_42 rfl]
                rw [zs_iload (ls := [some (.ref 4), some (.int x1), some (.int x2), some (.int x3), some (.int x4), some (.int x5), some (.int (σ 5 x1.toNatClampNeg)), none]) zd_49_43 rfl]
                rw [zp_iadd (x := (x1 * 24)) (y := (σ 5 x1.toNatClampNeg)) (z := ((x1 * 24) + (σ 5 x1.toNatClampNeg))) zd_49_45 rfl]
                rw [zs_istore (x := ((x1 * 24) + (σ 5 x1.toNatClampNeg))) (ls' := [some (.ref 4), some (.int x1), some (.int x2), some (.int x3), some (.int x4), some (.int x5), some (.int (σ 5 x1.toNatClampNeg)), some (.int ((x1 * 24) + (σ 5 x1.toNatClampNeg)))]) zd_49_46 (Nat.le_of_ble_eq_true rfl) rfl]
                rw [zs_aload_n (ls := [some (.ref 4), some (.int x1), some (.int x2), some (.int x3), some (.int x4), some (.int x5), some (.int (σ 5 x1.toNatClampNeg)), some (.int ((x1 * 24) + (σ 5 x1.toNatClampNeg)))]) zd_49_48 rfl]
                rw [zs_getR (n := 119) (K := zx_pk (zK L) 119) (ρ := zR) (c := 6) (k := 7) (q := 4) (p := 5) zd_49_49 rfl rfl rfl (by decide) rfl]
                rw [zs_iload_n (ls := [some (.ref 4), some (.int x1), some (.int x2), some (.int x3), some (.int x4), some (.int x5), some (.int (σ 5 x1.toNatClampNeg)), some (.int ((x1 * 24) + (σ 5 x1.toNatClampNeg)))]) zd_49_52 rfl]
                rw [zs_dup2 (a := .int x1) (b := .ref 5) zd_49_53 ⟨rfl, rfl⟩]
                by_cases c8 : 0 ≤ x1 ∧ x1 < 4
                · rw [if_pos c8] at H
                  rw [zp_iaload (n := 119) (K := zx_pk (zK L) 119) (σ := σ) (q := 5) (m := 4) (i := x1) (k := x1.toNatClampNeg) (v := (σ 5 x1.toNatClampNeg)) zd_49_54 rfl (by decide) (zJ_in c8 rfl) rfl rfl]
                  rw [zs_iconst (z := 1) zd_49_55 (by decide)]
                  rw [zp_iadd (x := (σ 5 x1.toNatClampNeg)) (y := 1) (z := ((σ 5 x1.toNatClampNeg) + 1)) zd_49_56 rfl]
                  by_cases c9 : 0 ≤ x1 ∧ x1 < 4
                  · rw [if_pos c9] at H
                    rw [zp_iastore (n := 119) (K := zx_pk (zK L) 119) (q := 5) (m := 4) (i := x1) (k := x1.toNatClampNeg) (x := ((σ 5 x1.toNatClampNeg) + 1)) (z := ((σ 5 x1.toNatClampNeg) + 1)) zd_49_57 rfl ⟨by decide, by decide⟩ (zJ_in c9 rfl) rfl rfl]
                    rw [zs_aload_n (ls := [some (.ref 4), some (.int x1), some (.int x2), some (.int x3), some (.int x4), some (.int x5), some (.int (σ 5 x1.toNatClampNeg)), some (.int ((x1 * 24) + (σ 5 x1.toNatClampNeg)))]) zd_49_58 rfl]
                    rw [zs_dup (a := .ref 4) zd_49_59 rfl]
                    rw [zp_getI (n := 119) (K := zx_pk (zK L) 119) (σ := (zx_up σ 5 x1.toNatClampNeg ((σ 5 x1.toNatClampNeg) + 1))) (c := 6) (k := 4) (q := 4) (v := (σ 4 4)) zd_49_60 rfl rfl rfl (by decide) (show ((zx_up σ 5 x1.toNatClampNeg ((σ 5 x1.toNatClampNeg) + 1)) : zS) 4 4 = (σ 4 4) from ((zx_up_ne (by decide)).trans rfl))]
                    rw [zs_iconst (z := 1) zd_49_63 (by decide)]
                    rw [zp_iadd (x := (σ 4 4)) (y := 1) (z := ((σ 4 4) + 1)) zd_49_64 rfl]
                    rw [zs_putI (n := 119) (K := zx_pk (zK L) 119) (c := 6) (k := 4) (q := 4) (x := ((σ 4 4) + 1)) zd_49_65 rfl rfl (by decide +kernel) rfl (by decide)]
                    rw [zs_aload_n (ls := [some (.ref 4), some (.int x1), some (.int x2), some (.int x3), some (.int x4), some (.int x5), some (.int (σ 5 x1.toNatClampNeg)), some (.int ((x1 * 24) + (σ 5 x1.toNatClampNeg)))]) zd_49_68 rfl]
                    rw [zs_getR (n := 119) (K := zx_pk (zK L) 119) (ρ := zR) (c := 6) (k := 9) (q := 4) (p := 7) zd_49_69 rfl rfl rfl (by decide) rfl]
                    rw [zs_iload (ls := [some (.ref 4), some (.int x1), some (.int x2), some (.int x3), some (.int x4), some (.int x5), some (.int (σ 5 x1.toNatClampNeg)), some (.int ((x1 * 24) + (σ 5 x1.toNatClampNeg)))]) zd_49_72 rfl]
                    rw [zs_iload_n (ls := [some (.ref 4), some (.int x1), some (.int x2), some (.int x3), some (.int x4), some (.int x5), some (.int (σ 5 x1.toNatClampNeg)), some (.int ((x1 * 24) + (σ 5 x1.toNatClampNeg)))]) zd_49_74 rfl]
                    by_cases c10 : 0 ≤ ((x1 * 24) + (σ 5 x1.toNatClampNeg)) ∧ ((x1 * 24) + (σ 5 x1.toNatClampNeg)) < 97
                    · rw [if_pos c10] at H
                      rw [zp_iastore (n := 119) (K := zx_pk (zK L) 119) (q := 7) (m := 97) (i := ((x1 * 24) + (σ 5 x1.toNatClampNeg))) (k := ((x1 * 24) + (σ 5 x1.toNatClampNeg)).toNatClampNeg) (x := x2) (z := x2) zd_49_75 rfl ⟨by decide, by decide⟩ (zJ_in c10 rfl) rfl rfl]
                      rw [zs_aload_n (ls := [some (.ref 4), some (.int x1), some (.int x2), some (.int x3), some (.int x4), some (.int x5), some (.int (σ 5 x1.toNatClampNeg)), some (.int ((x1 * 24) + (σ 5 x1.toNatClampNeg)))]) zd_49_76 rfl]
                      rw [zs_getR (n := 119) (K := zx_pk (zK L) 119) (ρ := zR) (c := 6) (k := 10) (q := 4) (p := 8) zd_49_77 rfl rfl rfl (by decide) rfl]
                      rw [zs_iload (ls := [some (.ref 4), some (.int x1), some (.int x2), some (.int x3), some (.int x4), some (.int x5), some (.int (σ 5 x1.toNatClampNeg)), some (.int ((x1 * 24) + (σ 5 x1.toNatClampNeg)))]) zd_49_80 rfl]
                      rw [zs_iload_n (ls := [some (.ref 4), some (.int x1), some (.int x2), some (.int x3), some (.int x4), some (.int x5), some (.int (σ 5 x1.toNatClampNeg)), some (.int ((x1 * 24) + (σ 5 x1.toNatClampNeg)))]) zd_49_82 rfl]
                      by_cases c11 : 0 ≤ ((x1 * 24) + (σ 5 x1.toNatClampNeg)) ∧ ((x1 * 24) + (σ 5 x1.toNatClampNeg)) < 97
                      · rw [if_pos c11] at H
                        rw [zp_iastore (n := 119) (K := zx_pk (zK L) 119) (q := 8) (m := 97) (i := ((x1 * 24) + (σ 5 x1.toNatClampNeg))) (k := ((x1 * 24) + (σ 5 x1.toNatClampNeg)).toNatClampNeg) (x := x3) (z := x3) zd_49_83 rfl ⟨by decide, by decide⟩ (zJ_in c11 rfl) rfl rfl]
                        rw [zs_aload_n (ls := [some (.ref 4), some (.int x1), some (.int x2), some (.int x3), some (.int x4), some (.int x5), some (.int (σ 5 x1.toNatClampNeg)), some (.int ((x1 * 24) + (σ 5 x1.toNatClampNeg)))]) zd_49_84 rfl]
                        rw [zs_getR (n := 119) (K := zx_pk (zK L) 119) (ρ := zR) (c := 6) (k := 13) (q := 4) (p := 11) zd_49_85 rfl rfl rfl (by decide) rfl]
                        rw [zs_iload (ls := [some (.ref 4), some (.int x1), some (.int x2), some (.int x3), some (.int x4), some (.int x5), some (.int (σ 5 x1.toNatClampNeg)), some (.int ((x1 * 24) + (σ 5 x1.toNatClampNeg)))]) zd_49_88 rfl]
                        rw [zs_iload (ls := [some (.ref 4), some (.int x1), some (.int x2), some (.int x3), some (.int x4), some (.int x5), some (.int (σ 5 x1.toNatClampNeg)), some (.int ((x1 * 24) + (σ 5 x1.toNatClampNeg)))]) zd_49_90 rfl]
                        by_cases c12 : 0 ≤ ((x1 * 24) + (σ 5 x1.toNatClampNeg)) ∧ ((x1 * 24) + (σ 5 x1.toNatClampNeg)) < 97
                        · rw [if_pos c12] at H
                          rw [zp_iastore (n := 119) (K := zx_pk (zK L) 119) (q := 11) (m := 97) (i := ((x1 * 24) + (σ 5 x1.toNatClampNeg))) (k := ((x1 * 24) + (σ 5 x1.toNatClampNeg)).toNatClampNeg) (x := x4) (z := x4) zd_49_92 rfl ⟨by decide, by decide⟩ (zJ_in c12 rfl) rfl rfl]
                          rw [zs_aload_n (ls := [some (.ref 4), some (.int x1), some (.int x2), some (.int x3), some (.int x4), some (.int x5), some (.int (σ 5 x1.toNatClampNeg)), some (.int ((x1 * 24) + (σ 5 x1.toNatClampNeg)))]) zd_49_93 rfl]
                          rw [zs_getR (n := 119) (K := zx_pk (zK L) 119) (ρ := zR) (c := 6) (k := 14) (q := 4) (p := 12) zd_49_94 rfl rfl rfl (by decide) rfl]
                          rw [zs_iload (ls := [some (.ref 4), some (.int x1), some (.int x2), some (.int x3), some (.int x4), some (.int x5), some (.int (σ 5 x1.toNatClampNeg)), some (.int ((x1 * 24) + (σ 5 x1.toNatClampNeg)))]) zd_49_97 rfl]
                          rw [zs_iload (ls := [some (.ref 4), some (.int x1), some (.int x2), some (.int x3), some (.int x4), some (.int x5), some (.int (σ 5 x1.toNatClampNeg)), some (.int ((x1 * 24) + (σ 5 x1.toNatClampNeg)))]) zd_49_99 rfl]
                          by_cases c13 : 0 ≤ ((x1 * 24) + (σ 5 x1.toNatClampNeg)) ∧ ((x1 * 24) + (σ 5 x1.toNatClampNeg)) < 97
                          · rw [if_pos c13] at H
                            rw [zp_iastore (n := 119) (K := zx_pk (zK L) 119) (q := 12) (m := 97) (i := ((x1 * 24) + (σ 5 x1.toNatClampNeg))) (k := ((x1 * 24) + (σ 5 x1.toNatClampNeg)).toNatClampNeg) (x := x5) (z := x5) zd_49_101 rfl ⟨by decide, by decide⟩ (zJ_in c13 rfl) rfl rfl]
                            rw [zs_aload_n (ls := [some (.ref 4), some (.int x1), some (.int x2), some (.int x3), some (.int x4), some (.int x5), some (.int (σ 5 x1.toNatClampNeg)), some (.int ((x1 * 24) + (σ 5 x1.toNatClampNeg)))]) zd_49_102 rfl]
                            rw [zs_getR (n := 119) (K := zx_pk (zK L) 119) (ρ := zR) (c := 6) (k := 11) (q := 4) (p := 9) zd_49_103 rfl rfl rfl (by decide) rfl]
                            rw [zs_iload (ls := [some (.ref 4), some (.int x1), some (.int x2), some (.int x3), some (.int x4), some (.int x5), some (.int (σ 5 x1.toNatClampNeg)), some (.int ((x1 * 24) + (σ 5 x1.toNatClampNeg)))]) zd_49_106 rfl]
                            rw [zs_iconst (z := (-1)) zd_49_108 (by decide)]
                            by_cases c14 : 0 ≤ ((x1 * 24) + (σ 5 x1.toNatClampNeg)) ∧ ((x1 * 24) + (σ 5 x1.toNatClampNeg)) < 97
                            · rw [if_pos c14] at H
                              rw [zp_iastore (n := 119) (K := zx_pk (zK L) 119) (q := 9) (m := 97) (i := ((x1 * 24) + (σ 5 x1.toNatClampNeg))) (k := ((x1 * 24) + (σ 5 x1.toNatClampNeg)).toNatClampNeg) (x := (-1)) (z := (-1)) zd_49_109 rfl ⟨by decide, by decide⟩ (zJ_in c14 rfl) rfl rfl]
                              rw [zs_aload_n (ls := [some (.ref 4), some (.int x1), some (.int x2), some (.int x3), some (.int x4), some (.int x5), some (.int (σ 5 x1.toNatClampNeg)), some (.int ((x1 * 24) + (σ 5 x1.toNatClampNeg)))]) zd_49_110 rfl]
                              rw [zs_getR (n := 119) (K := zx_pk (zK L) 119) (ρ := zR) (c := 6) (k := 12) (q := 4) (p := 10) zd_49_111 rfl rfl rfl (by decide) rfl]
                              rw [zs_iload (ls := [some (.ref 4), some (.int x1), some (.int x2), some (.int x3), some (.int x4), some (.int x5), some (.int (σ 5 x1.toNatClampNeg)), some (.int ((x1 * 24) + (σ 5 x1.toNatClampNeg)))]) zd_49_114 rfl]
                              rw [zs_iconst (z := (-1)) zd_49_116 (by decide)]
                              by_cases c15 : 0 ≤ ((x1 * 24) + (σ 5 x1.toNatClampNeg)) ∧ ((x1 * 24) + (σ 5 x1.toNatClampNeg)) < 97
                              · rw [if_pos c15] at H
                                rw [zp_iastore (n := 119) (K := zx_pk (zK L) 119) (q := 10) (m := 97) (i := ((x1 * 24) + (σ 5 x1.toNatClampNeg))) (k := ((x1 * 24) + (σ 5 x1.toNatClampNeg)).toNatClampNeg) (x := (-1)) (z := (-1)) zd_49_117 rfl ⟨by decide, by decide⟩ (zJ_in c15 rfl) rfl rfl]
                                rw [zs_iload (ls := [some (.ref 4), some (.int x1), some (.int x2), some (.int x3), some (.int x4), some (.int x5), some (.int (σ 5 x1.toNatClampNeg)), some (.int ((x1 * 24) + (σ 5 x1.toNatClampNeg)))]) zd_49_118 rfl]
                                have H := Option.some.inj H
                                subst H
                                exact zs_ireturn zd_49_120 rfl
                              · rw [if_neg c15] at H
                                cases H
                            · rw [if_neg c14] at H
                              cases H
                          · rw [if_neg c13] at H
                            cases H
                        · rw [if_neg c12] at H
                          cases H
                      · rw [if_neg c11] at H
                        cases H
                    · rw [if_neg c10] at H
                      cases H
                  · rw [if_neg c9] at H
                    cases H
                · rw [if_neg c8] at H
                  cases H
              · rw [if_neg c7] at H
                cases H
            · rw [if_neg c6] at H
              rw [zp_icmp_lt_f (x := (σ 5 x1.toNatClampNeg)) (y := 24) (t := 31) zd_49_26 rfl c6]
              rw [zs_iconst (z := (-1)) zd_49_29 (by decide)]
              have H := Option.some.inj H
              subst H
              exact zs_ireturn zd_49_30 (by decide +kernel)
          · rw [if_neg c5] at H
            cases H
      · rw [if_neg c3] at H
        cases H
set_option maxRecDepth 20000 in
theorem zt_Weaver_emit_59 {a b L N : Nat} {σ : zS} {τ : zT} {s0 : Int32} {o0 : Option Value} {o1 : Option Value} {o2 : Option Value} {r : zS} (H : zb_Weaver_emit_59 N σ s0 = some r) : zx_go 1 48 59 [o0, o1, o2] [.int s0, .ref 29] ((119, a, b), zx_pk (zK L) 119, σ, τ, zR) = some (none, ((119, a, b), zx_pk (zK L) 119, r, τ, zR)) := by
  unfold zb_Weaver_emit_59 at H
  rw [zs_putI (n := 119) (K := zx_pk (zK L) 119) (c := 10) (k := 9) (q := 29) (x := s0) zd_48_59 rfl rfl (by decide +kernel) rfl (by decide)]
  have H := Option.some.inj H
  subst H
  exact zs_return zd_48_62 (by decide +kernel)
set_option maxRecDepth 20000 in
theorem zt_Weaver_emit {a b L N : Nat} {σ : zS} {τ : zT} {x1 : Int32} {x2 : Int32} {r : zS} (H : zf_Weaver_emit N σ x1 x2 = some r) : zx_go 1 48 0 [some (.ref 29), some (.int x1), some (.int x2)] [] ((119, a, b), zx_pk (zK L) 119, σ, τ, zR) = some (none, ((119, a, b), zx_pk (zK L) 119, r, τ, zR)) := by
  unfold zf_Weaver_emit at H
  rw [zs_aload_n (ls := [some (.ref 29), some (.int x1), some (.int x2)]) zd_48_0 rfl]
  rw [zs_aload_n (ls := [some (.ref 29), some (.int x1), some (.int x2)]) zd_48_1 rfl]
  rw [zs_getR (n := 119) (K := zx_pk (zK L) 119) (ρ := zR) (c := 10) (k := 0) (q := 29) (p := 4) zd_48_2 rfl rfl rfl (by decide) rfl]
  rw [zs_aload_n (ls := [some (.ref 29), some (.int x1), some (.int x2)]) zd_48_5 rfl]
  rw [zp_getI (n := 119) (K := zx_pk (zK L) 119) (σ := σ) (c := 10) (k := 8) (q := 29) (v := (σ 29 8)) zd_48_6 rfl rfl rfl (by decide) rfl]
  obtain ⟨r1, hr1, H⟩ := Option.bind_eq_some_iff.mp H
  rw [zp_callVi (x := r1) (st := [.int (σ 29 8), .ref 4, .ref 29]) (as := [.ref 4, .int (σ 29 8)]) (rest := [.ref 29]) (e := 0) zd_48_9 rfl (by decide +kernel) (by decide) rfl rfl (Nat.le_of_ble_eq_true rfl) (zx_rcb_ok rfl (show 4 < 119 by decide)) (Nat.le_of_ble_eq_true rfl) rfl (by decide) (zt_Program_lengthOf hr1)]
  obtain ⟨r2, hr2, H⟩ := Option.bind_eq_some_iff.mp H
  rw [zp_callVv (st := [.int r1, .ref 29]) (as := [.ref 29, .int r1]) (rest := []) (e := 0) zd_48_12 rfl (by decide +kernel) (by decide) rfl rfl (Nat.le_of_ble_eq_true rfl) (zx_rcb_ok rfl (show 29 < 119 by decide)) (Nat.le_of_ble_eq_true rfl) rfl (by decide) (zt_Weaver_closeOpen hr2)]
  rw [zs_aload_n (ls := [some (.ref 29), some (.int x1), some (.int x2)]) zd_48_15 rfl]
  rw [zs_aload_n (ls := [some (.ref 29), some (.int x1), some (.int x2)]) zd_48_16 rfl]
  rw [zs_getR (n := 119) (K := zx_pk (zK L) 119) (ρ := zR) (c := 10) (k := 0) (q := 29) (p := 4) zd_48_17 rfl rfl rfl (by decide) rfl]
  rw [zs_aload_n (ls := [some (.ref 29), some (.int x1), some (.int x2)]) zd_48_20 rfl]
  rw [zp_getI (n := 119) (K := zx_pk (zK L) 119) (σ := r2) (c := 10) (k := 8) (q := 29) (v := (r2 29 8)) zd_48_21 rfl rfl rfl (by decide) rfl]
  rw [zs_iload_n (ls := [some (.ref 29), some (.int x1), some (.int x2)]) zd_48_24 rfl]
  rw [zs_iload_n (ls := [some (.ref 29), some (.int x1), some (.int x2)]) zd_48_25 rfl]
  rw [zs_aload_n (ls := [some (.ref 29), some (.int x1), some (.int x2)]) zd_48_26 rfl]
  rw [zp_getI (n := 119) (K := zx_pk (zK L) 119) (σ := r2) (c := 10) (k := 11) (q := 29) (v := (r2 29 11)) zd_48_27 rfl rfl rfl (by decide) rfl]
  rw [zs_aload_n (ls := [some (.ref 29), some (.int x1), some (.int x2)]) zd_48_30 rfl]
  rw [zp_getI (n := 119) (K := zx_pk (zK L) 119) (σ := r2) (c := 10) (k := 12) (q := 29) (v := (r2 29 12)) zd_48_31 rfl rfl rfl (by decide) rfl]
  obtain ⟨r3, hr3, H⟩ := Option.bind_eq_some_iff.mp H
  rw [zp_callVi (x := r3.1) (st := [.int (r2 29 12), .int (r2 29 11), .int x2, .int x1, .int (r2 29 8), .ref 4, .ref 29]) (as := [.ref 4, .int (r2 29 8), .int x1, .int x2, .int (r2 29 11), .int (r2 29 12)]) (rest := [.ref 29]) (e := 0) zd_48_34 rfl (by decide +kernel) (by decide) rfl rfl (Nat.le_of_ble_eq_true rfl) (zx_rcb_ok rfl (show 4 < 119 by decide)) (Nat.le_of_ble_eq_true rfl) rfl (by decide) (zt_Program_addStep hr3)]
  rw [zs_putI (n := 119) (K := zx_pk (zK L) 119) (c := 10) (k := 7) (q := 29) (x := r3.1) zd_48_37 rfl rfl (by decide +kernel) rfl (by decide)]
  rw [zs_aload_n (ls := [some (.ref 29), some (.int x1), some (.int x2)]) zd_48_40 rfl]
  rw [zs_aload_n (ls := [some (.ref 29), some (.int x1), some (.int x2)]) zd_48_41 rfl]
  rw [zp_getI (n := 119) (K := zx_pk (zK L) 119) (σ := (zx_up r3.2 29 7 r3.1)) (c := 10) (k := 7) (q := 29) (v := r3.1) zd_48_42 rfl rfl rfl (by decide) (show ((zx_up r3.2 29 7 r3.1) : zS) 29 7 = r3.1 from zx_up_at)]
  rw [zs_iconst (z := (-1)) zd_48_45 (by decide)]
  by_cases c4 : ¬ r3.1 = (-1)
  · rw [if_pos c4] at H
    rw [zp_icmp_ne_t (x := r3.1) (y := (-1)) (t := 53) zd_48_46 rfl c4]
    rw [zs_iconst (z := 1) zd_48_53 (by decide)]
    rw [zs_aload_n (ls := [some (.ref 29), some (.int x1), some (.int x2)]) zd_48_54 rfl]
    rw [zp_getI (n := 119) (K := zx_pk (zK L) 119) (σ := (zx_up r3.2 29 7 r3.1)) (c := 10) (k := 7) (q := 29) (v := r3.1) zd_48_55 rfl rfl rfl (by decide) (show ((zx_up r3.2 29 7 r3.1) : zS) 29 7 = r3.1 from zx_up_at)]
    rw [zp_ishl (x := 1) (y := r3.1) (z := (zJ_shl 1 r3.1)) zd_48_58 rfl]
    exact zt_Weaver_emit_59  H
  · rw [if_neg c4] at H
    rw [zp_icmp_ne_f (x := r3.1) (y := (-1)) (t := 53) zd_48_46 rfl c4]
    rw [zs_iconst (z := 0) zd_48_49 (by decide)]
    rw [zs_goto (t := 59) zd_48_50 rfl]
    exact zt_Weaver_emit_59  H
set_option maxRecDepth 20000 in
theorem zt_Reader_readStop {a b L N : Nat} {σ : zS} {τ : zT} {r : zS × zT} (H : zf_Reader_readStop N σ τ = some r) : zx_go 3 73 0 [some (.ref 17)] [] ((119, a, b), zx_pk (zK L) 119, σ, τ, zR) = some (none, ((119, a, b), zx_pk (zK L) 119, r.1, r.2, zR)) := by
  unfold zf_Reader_readStop at H
  rw [zs_aload_n (ls := [some (.ref 17)]) zd_73_0 rfl]
  obtain ⟨r1, hr1, H⟩ := Option.bind_eq_some_iff.mp H
  rw [zp_callVi (x := r1.1) (st := [.ref 17]) (as := [.ref 17]) (rest := []) (e := 2) zd_73_1 rfl (by decide +kernel) (by decide) rfl rfl (Nat.le_of_ble_eq_true rfl) (zx_rcb_ok rfl (show 17 < 119 by decide)) (Nat.le_of_ble_eq_true rfl) rfl (by decide) (zt_Reader_hasRoomForStep hr1)]
  by_cases c2 : r1.1 = 0
  · rw [if_pos c2] at H
    rw [zp_if_eq_t (x := r1.1) (t := 31) zd_73_4 rfl c2]
    have H := Option.some.inj H
    subst H
    exact zs_return zd_73_31 (by decide +kernel)
  · rw [if_neg c2] at H
    rw [zp_if_eq_f (x := r1.1) (t := 31) zd_73_4 rfl c2]
    rw [zs_aload_n (ls := [some (.ref 17)]) zd_73_7 rfl]
    rw [zs_getR (n := 119) (K := zx_pk (zK L) 119) (ρ := zR) (c := 7) (k := 1) (q := 17) (p := 25) zd_73_8 rfl rfl rfl (by decide) rfl]
    obtain ⟨r3, hr3, H⟩ := Option.bind_eq_some_iff.mp H
    rw [zp_callVv (st := [.ref 25]) (as := [.ref 25]) (rest := []) (e := 0) zd_73_11 rfl (by decide +kernel) (by decide) rfl rfl (Nat.le_of_ble_eq_true rfl) (zx_rcb_ok rfl (show 25 < 119 by decide)) (Nat.le_of_ble_eq_true rfl) rfl (by decide) (zt_Tokens_advance hr3)]
    rw [zs_aload_n (ls := [some (.ref 17)]) zd_73_14 rfl]
    rw [zs_getR (n := 119) (K := zx_pk (zK L) 119) (ρ := zR) (c := 7) (k := 3) (q := 17) (p := 29) zd_73_15 rfl rfl rfl (by decide) rfl]
    rw [zs_bipush (z := 13) zd_73_18 (by decide)]
    rw [zs_iconst (z := (-1)) zd_73_20 (by decide)]
    obtain ⟨r4, hr4, H⟩ := Option.bind_eq_some_iff.mp H
    rw [zp_callVv (st := [.int (-1), .int 13, .ref 29]) (as := [.ref 29, .int 13, .int (-1)]) (rest := []) (e := 1) zd_73_21 rfl (by decide +kernel) (by decide) rfl rfl (Nat.le_of_ble_eq_true rfl) (zx_rcb_ok rfl (show 29 < 119 by decide)) (Nat.le_of_ble_eq_true rfl) rfl (by decide) (zt_Weaver_emit hr4)]
    rw [zs_aload_n (ls := [some (.ref 17)]) zd_73_24 rfl]
    rw [zs_bipush (z := 59) zd_73_25 (by decide)]
    obtain ⟨r5, hr5, H⟩ := Option.bind_eq_some_iff.mp H
    rw [zp_callVi (x := r5.1) (st := [.int 59, .ref 17]) (as := [.ref 17, .int 59]) (rest := []) (e := 1) zd_73_27 rfl (by decide +kernel) (by decide) rfl rfl (Nat.le_of_ble_eq_true rfl) (zx_rcb_ok rfl (show 17 < 119 by decide)) (Nat.le_of_ble_eq_true rfl) rfl (by decide) (zt_Reader_expect hr5)]
    rw [zs_pop (a := .int r5.1) zd_73_30 rfl]
    have H := Option.some.inj H
    subst H
    exact zs_return zd_73_31 (by decide +kernel)
set_option maxRecDepth 20000 in
theorem zt_Names_localOf_2 {a b L N : Nat} : ∀ {n : Nat} {σ : zS} {τ : zT} {v1 : Int64} {v3 : Int32} {o2 : Option Value} {r : Int32}, zb_Names_localOf_2 N n σ τ v1 v3 = some r → zx_go 0 54 2 [some (.ref 18), some (.long v1), o2, some (.int v3)] [] ((119, a, b), zx_pk (zK L) 119, σ, τ, zR) = some (some (.int r), ((119, a, b), zx_pk (zK L) 119, σ, τ, zR)) := by
  intro n
  induction n with
  | zero =>
    intro _ _ _ _ _ _ H
    cases H
  | succ n ih =>
    intro σ τ v1 v3 o2 r H
    rw [zb_Names_localOf_2] at H
    rw [zs_iload_n (ls := [some (.ref 18), some (.long v1), o2, some (.int v3)]) zd_54_2 rfl]
    rw [zs_aload_n (ls := [some (.ref 18), some (.long v1), o2, some (.int v3)]) zd_54_3 rfl]
    rw [zp_getI (n := 119) (K := zx_pk (zK L) 119) (σ := σ) (c := 3) (k := 5) (q := 18) (v := (σ 18 5)) zd_54_4 rfl rfl rfl (by decide) rfl]
    by_cases c1 : (σ 18 5) ≤ v3
    · rw [if_pos c1] at H
      rw [zp_icmp_ge_t (x := v3) (y := (σ 18 5)) (t := 34) zd_54_7 rfl c1]
      rw [zs_iconst (z := (-1)) zd_54_34 (by decide)]
      have H := Option.some.inj H
      subst H
      exact zs_ireturn zd_54_35 (by decide +kernel)
    · rw [if_neg c1] at H
      rw [zp_icmp_ge_f (x := v3) (y := (σ 18 5)) (t := 34) zd_54_7 rfl c1]
      rw [zs_iload_n (ls := [some (.ref 18), some (.long v1), o2, some (.int v3)]) zd_54_10 rfl]
      rw [zs_iconst (z := 3) zd_54_11 (by decide)]
      by_cases c2 : 3 ≤ v3
      · rw [if_pos c2] at H
        rw [zp_icmp_ge_t (x := v3) (y := 3) (t := 34) zd_54_12 rfl c2]
        rw [zs_iconst (z := (-1)) zd_54_34 (by decide)]
        have H := Option.some.inj H
        subst H
        exact zs_ireturn zd_54_35 (by decide +kernel)
      · rw [if_neg c2] at H
        rw [zp_icmp_ge_f (x := v3) (y := 3) (t := 34) zd_54_12 rfl c2]
        rw [zs_aload_n (ls := [some (.ref 18), some (.long v1), o2, some (.int v3)]) zd_54_15 rfl]
        rw [zs_getR (n := 119) (K := zx_pk (zK L) 119) (ρ := zR) (c := 3) (k := 4) (q := 18) (p := 22) zd_54_16 rfl rfl rfl (by decide) rfl]
        rw [zs_iload_n (ls := [some (.ref 18), some (.long v1), o2, some (.int v3)]) zd_54_19 rfl]
        by_cases c3 : 0 ≤ v3 ∧ v3 < 3
        · rw [if_pos c3] at H
          rw [zp_laload (n := 119) (K := zx_pk (zK L) 119) (τ := τ) (q := 22) (m := 3) (i := v3) (k := v3.toNatClampNeg) (v := (τ 22 v3.toNatClampNeg)) zd_54_20 rfl (by decide) (zJ_in c3 rfl) rfl rfl]
          rw [zs_lload_n (ls := [some (.ref 18), some (.long v1), o2, some (.int v3)]) zd_54_21 rfl]
          rw [zp_lcmp (x := (τ 22 v3.toNatClampNeg)) (y := v1) (z := (lg_cmp (τ 22 v3.toNatClampNeg) v1)) zd_54_22 rfl]
          by_cases c4 : ¬ (τ 22 v3.toNatClampNeg) = v1
          · rw [if_pos c4] at H
            rw [zp_if_ne_t (x := (lg_cmp (τ 22 v3.toNatClampNeg) v1)) (t := 28) zd_54_23 rfl (fun q => c4 (zJ_lc.mpr q))]
            rw [zs_iinc (ls := [some (.ref 18), some (.long v1), o2, some (.int v3)]) (x := v3) (z := (v3 + 1)) (ls' := [some (.ref 18), some (.long v1), (zJ_cl o2), some (.int (v3 + 1))]) zd_54_28 rfl rfl (zJ_s1 (k := 2) (o := o2) rfl)]
            rw [zs_goto (t := 2) zd_54_31 rfl]
            exact ih H
          · rw [if_neg c4] at H
            rw [zp_if_ne_f (x := (lg_cmp (τ 22 v3.toNatClampNeg) v1)) (t := 28) zd_54_23 rfl (fun q => c4 (fun q2 => q (zJ_lc.mp q2)))]
            rw [zs_iload_n (ls := [some (.ref 18), some (.long v1), o2, some (.int v3)]) zd_54_26 rfl]
            have H := Option.some.inj H
            subst H
            exact zs_ireturn zd_54_27 rfl
        · rw [if_neg c3] at H
          cases H
set_option maxRecDepth 20000 in
theorem zt_Names_localOf {a b L N : Nat} {σ : zS} {τ : zT} {x1 : Int64} {r : Int32} (H : zf_Names_localOf N σ τ x1 = some r) : zx_go 0 54 0 [some (.ref 18), some (.long x1), none, none] [] ((119, a, b), zx_pk (zK L) 119, σ, τ, zR) = some (some (.int r), ((119, a, b), zx_pk (zK L) 119, σ, τ, zR)) := by
  unfold zf_Names_localOf at H
  rw [zs_iconst (z := 0) zd_54_0 (by decide)]
  rw [zs_istore_n (x := 0) (ls' := [some (.ref 18), some (.long x1), none, some (.int 0)]) zd_54_1 (Nat.le_of_ble_eq_true rfl) rfl]
  exact zt_Names_localOf_2  H
set_option maxRecDepth 20000 in
theorem zt_Reader_failAtWrongToken_63 {a b L N : Nat} {σ : zS} {τ : zT} {s0 : Int32} {o0 : Option Value} {o1 : Option Value} {r : zS} (H : zb_Reader_failAtWrongToken_63 N σ τ s0 = some r) : zx_go 1 66 63 [o0, o1] [.int s0, .ref 17] ((119, a, b), zx_pk (zK L) 119, σ, τ, zR) = some (none, ((119, a, b), zx_pk (zK L) 119, r, τ, zR)) := by
  unfold zb_Reader_failAtWrongToken_63 at H
  obtain ⟨r3, hr3, H⟩ := Option.bind_eq_some_iff.mp H
  rw [zp_callVi (x := r3.1) (st := [.int s0, .ref 17]) (as := [.ref 17, .int s0]) (rest := []) (e := 0) zd_66_63 rfl (by decide +kernel) (by decide) rfl rfl (Nat.le_of_ble_eq_true rfl) (zx_rcb_ok rfl (show 17 < 119 by decide)) (Nat.le_of_ble_eq_true rfl) rfl (by decide) (zt_Reader_failHere hr3)]
  rw [zs_pop (a := .int r3.1) zd_66_66 rfl]
  have H := Option.some.inj H
  subst H
  exact zs_return zd_66_67 (by decide +kernel)
set_option maxRecDepth 20000 in
theorem zt_Reader_failAtWrongToken_52 {a b L N : Nat} {σ : zS} {τ : zT} {s0 : Int32} {o1 : Option Value} {r : zS} (H : zb_Reader_failAtWrongToken_52 N σ τ s0 = some r) : zx_go 1 66 52 [some (.ref 17), o1] [.int s0] ((119, a, b), zx_pk (zK L) 119, σ, τ, zR) = some (none, ((119, a, b), zx_pk (zK L) 119, r, τ, zR)) := by
  unfold zb_Reader_failAtWrongToken_52 at H
  rw [zs_istore_n (x := s0) (ls' := [some (.ref 17), some (.int s0)]) zd_66_52 (Nat.le_of_ble_eq_true rfl) rfl]
  rw [zs_aload_n (ls := [some (.ref 17), some (.int s0)]) zd_66_53 rfl]
  rw [zs_iload_n (ls := [some (.ref 17), some (.int s0)]) zd_66_54 rfl]
  by_cases c2 : s0 = 0
  · rw [if_pos c2] at H
    rw [zp_if_eq_t (x := s0) (t := 62) zd_66_55 rfl c2]
    rw [zs_iconst (z := 2) zd_66_62 (by decide)]
    exact zt_Reader_failAtWrongToken_63  H
  · rw [if_neg c2] at H
    rw [zp_if_eq_f (x := s0) (t := 62) zd_66_55 rfl c2]
    rw [zs_iconst (z := 3) zd_66_58 (by decide)]
    rw [zs_goto (t := 63) zd_66_59 rfl]
    exact zt_Reader_failAtWrongToken_63  H
set_option maxRecDepth 20000 in
theorem zt_Reader_failAtWrongToken_51 {a b L N : Nat} {σ : zS} {τ : zT} {o1 : Option Value} {r : zS} (H : zb_Reader_failAtWrongToken_51 N σ τ = some r) : zx_go 1 66 51 [some (.ref 17), o1] [] ((119, a, b), zx_pk (zK L) 119, σ, τ, zR) = some (none, ((119, a, b), zx_pk (zK L) 119, r, τ, zR)) := by
  unfold zb_Reader_failAtWrongToken_51 at H
  rw [zs_iconst (z := 0) zd_66_51 (by decide)]
  exact zt_Reader_failAtWrongToken_52  H
set_option maxRecDepth 20000 in
theorem zt_Reader_failAtWrongToken {a b L N : Nat} {σ : zS} {τ : zT} {r : zS} (H : zf_Reader_failAtWrongToken N σ τ = some r) : zx_go 1 66 0 [some (.ref 17), none] [] ((119, a, b), zx_pk (zK L) 119, σ, τ, zR) = some (none, ((119, a, b), zx_pk (zK L) 119, r, τ, zR)) := by
  unfold zf_Reader_failAtWrongToken at H
  rw [zs_aload_n (ls := [some (.ref 17), none]) zd_66_0 rfl]
  rw [zs_getR (n := 119) (K := zx_pk (zK L) 119) (ρ := zR) (c := 7) (k := 1) (q := 17) (p := 25) zd_66_1 rfl rfl rfl (by decide) rfl]
  rw [zp_getI (n := 119) (K := zx_pk (zK L) 119) (σ := σ) (c := 9) (k := 7) (q := 25) (v := (σ 25 7)) zd_66_4 rfl rfl rfl (by decide) rfl]
  rw [zs_iconst (z := 3) zd_66_7 (by decide)]
  by_cases c1 : ¬ (σ 25 7) = 3
  · rw [if_pos c1] at H
    rw [zp_icmp_ne_t (x := (σ 25 7)) (y := 3) (t := 51) zd_66_8 rfl c1]
    exact zt_Reader_failAtWrongToken_51  H
  · rw [if_neg c1] at H
    rw [zp_icmp_ne_f (x := (σ 25 7)) (y := 3) (t := 51) zd_66_8 rfl c1]
    rw [zs_aload_n (ls := [some (.ref 17), none]) zd_66_11 rfl]
    rw [zs_getR (n := 119) (K := zx_pk (zK L) 119) (ρ := zR) (c := 7) (k := 2) (q := 17) (p := 18) zd_66_12 rfl rfl rfl (by decide) rfl]
    rw [zs_aload_n (ls := [some (.ref 17), none]) zd_66_15 rfl]
    rw [zs_getR (n := 119) (K := zx_pk (zK L) 119) (ρ := zR) (c := 7) (k := 1) (q := 17) (p := 25) zd_66_16 rfl rfl rfl (by decide) rfl]
    rw [zp_getL (n := 119) (K := zx_pk (zK L) 119) (τ := τ) (c := 9) (k := 9) (q := 25) (v := (τ 25 9)) zd_66_19 rfl rfl rfl (by decide) rfl]
    obtain ⟨r4, hr4, H⟩ := Option.bind_eq_some_iff.mp H
    rw [zp_callVi (x := r4) (st := [.long (τ 25 9), .ref 18]) (as := [.ref 18, .long (τ 25 9)]) (rest := []) (e := 0) zd_66_22 rfl (by decide +kernel) (by decide) rfl rfl (Nat.le_of_ble_eq_true rfl) (zx_rcb_ok rfl (show 18 < 119 by decide)) (Nat.le_of_ble_eq_true rfl) rfl (by decide) (zt_Names_sortOf hr4)]
    rw [zs_iconst (z := (-1)) zd_66_25 (by decide)]
    by_cases c5 : ¬ r4 = (-1)
    · rw [if_pos c5] at H
      rw [zp_icmp_ne_t (x := r4) (y := (-1)) (t := 51) zd_66_26 rfl c5]
      exact zt_Reader_failAtWrongToken_51  H
    · rw [if_neg c5] at H
      rw [zp_icmp_ne_f (x := r4) (y := (-1)) (t := 51) zd_66_26 rfl c5]
      rw [zs_aload_n (ls := [some (.ref 17), none]) zd_66_29 rfl]
      rw [zs_getR (n := 119) (K := zx_pk (zK L) 119) (ρ := zR) (c := 7) (k := 2) (q := 17) (p := 18) zd_66_30 rfl rfl rfl (by decide) rfl]
      rw [zs_aload_n (ls := [some (.ref 17), none]) zd_66_33 rfl]
      rw [zs_getR (n := 119) (K := zx_pk (zK L) 119) (ρ := zR) (c := 7) (k := 1) (q := 17) (p := 25) zd_66_34 rfl rfl rfl (by decide) rfl]
      rw [zp_getL (n := 119) (K := zx_pk (zK L) 119) (τ := τ) (c := 9) (k := 9) (q := 25) (v := (τ 25 9)) zd_66_37 rfl rfl rfl (by decide) rfl]
      obtain ⟨r6, hr6, H⟩ := Option.bind_eq_some_iff.mp H
      rw [zp_callVi (x := r6) (st := [.long (τ 25 9), .ref 18]) (as := [.ref 18, .long (τ 25 9)]) (rest := []) (e := 0) zd_66_40 rfl (by decide +kernel) (by decide) rfl rfl (Nat.le_of_ble_eq_true rfl) (zx_rcb_ok rfl (show 18 < 119 by decide)) (Nat.le_of_ble_eq_true rfl) rfl (by decide) (zt_Names_localOf hr6)]
      rw [zs_iconst (z := (-1)) zd_66_43 (by decide)]
      by_cases c7 : ¬ r6 = (-1)
      · rw [if_pos c7] at H
        rw [zp_icmp_ne_t (x := r6) (y := (-1)) (t := 51) zd_66_44 rfl c7]
        exact zt_Reader_failAtWrongToken_51  H
      · rw [if_neg c7] at H
        rw [zp_icmp_ne_f (x := r6) (y := (-1)) (t := 51) zd_66_44 rfl c7]
        rw [zs_iconst (z := 1) zd_66_47 (by decide)]
        rw [zs_goto (t := 52) zd_66_48 rfl]
        exact zt_Reader_failAtWrongToken_52  H
set_option maxRecDepth 20000 in
theorem zt_Reader_takeTestValue_72 {a b L N : Nat} {σ : zS} {τ : zT} {s0 : Int32} {o1 : Option Value} {o2 : Option Value} {r : Int32 × zS × zT} (H : zb_Reader_takeTestValue_72 N σ τ s0 = some r) : zx_go 2 69 72 [some (.ref 17), o1, o2] [.int s0] ((119, a, b), zx_pk (zK L) 119, σ, τ, zR) = some (some (.int r.1), ((119, a, b), zx_pk (zK L) 119, r.2.1, r.2.2, zR)) := by
  unfold zb_Reader_takeTestValue_72 at H
  rw [zs_istore_n (x := s0) (ls' := [some (.ref 17), (zJ_cl o1), some (.int s0)]) zd_69_72 (Nat.le_of_ble_eq_true rfl) (zJ_s1 (k := 1) (o := o1) rfl)]
  rw [zs_aload_n (ls := [some (.ref 17), (zJ_cl o1), some (.int s0)]) zd_69_73 rfl]
  rw [zs_getR (n := 119) (K := zx_pk (zK L) 119) (ρ := zR) (c := 7) (k := 1) (q := 17) (p := 25) zd_69_74 rfl rfl rfl (by decide) rfl]
  obtain ⟨r4, hr4, H⟩ := Option.bind_eq_some_iff.mp H
  rw [zp_callVv (st := [.ref 25]) (as := [.ref 25]) (rest := []) (e := 0) zd_69_77 rfl (by decide +kernel) (by decide) rfl rfl (Nat.le_of_ble_eq_true rfl) (zx_rcb_ok rfl (show 25 < 119 by decide)) (Nat.le_of_ble_eq_true rfl) rfl (by decide) (zt_Tokens_advance hr4)]
  rw [zs_iload_n (ls := [some (.ref 17), (zJ_cl o1), some (.int s0)]) zd_69_80 rfl]
  have H := Option.some.inj H
  subst H
  exact zs_ireturn zd_69_81 rfl
set_option maxRecDepth 20000 in
theorem zt_Reader_takeTestValue_52 {a b L N : Nat} {σ : zS} {τ : zT} {v1 : Int32} {o2 : Option Value} {r : Int32 × zS × zT} (H : zb_Reader_takeTestValue_52 N σ τ v1 = some r) : zx_go 2 69 52 [some (.ref 17), some (.int v1), o2] [] ((119, a, b), zx_pk (zK L) 119, σ, τ, zR) = some (some (.int r.1), ((119, a, b), zx_pk (zK L) 119, r.2.1, r.2.2, zR)) := by
  unfold zb_Reader_takeTestValue_52 at H
  rw [zs_iload_n (ls := [some (.ref 17), some (.int v1), o2]) zd_69_52 rfl]
  rw [zs_iconst (z := (-1)) zd_69_53 (by decide)]
  by_cases c3 : ¬ v1 = (-1)
  · rw [if_pos c3] at H
    rw [zp_icmp_ne_t (x := v1) (y := (-1)) (t := 68) zd_69_54 rfl c3]
    rw [zs_bipush (z := 8) zd_69_68 (by decide)]
    rw [zs_iload_n (ls := [some (.ref 17), some (.int v1), o2]) zd_69_70 rfl]
    rw [zp_iadd (x := 8) (y := v1) (z := (8 + v1)) zd_69_71 rfl]
    exact zt_Reader_takeTestValue_72  H
  · rw [if_neg c3] at H
    rw [zp_icmp_ne_f (x := v1) (y := (-1)) (t := 68) zd_69_54 rfl c3]
    rw [zs_aload_n (ls := [some (.ref 17), some (.int v1), o2]) zd_69_57 rfl]
    rw [zs_getR (n := 119) (K := zx_pk (zK L) 119) (ρ := zR) (c := 7) (k := 1) (q := 17) (p := 25) zd_69_58 rfl rfl rfl (by decide) rfl]
    rw [zp_getL (n := 119) (K := zx_pk (zK L) 119) (τ := τ) (c := 9) (k := 9) (q := 25) (v := (τ 25 9)) zd_69_61 rfl rfl rfl (by decide) rfl]
    rw [zp_l2i (x := (τ 25 9)) (z := ((τ 25 9) : Int64).toInt32) zd_69_64 rfl]
    rw [zs_goto (t := 72) zd_69_65 rfl]
    exact zt_Reader_takeTestValue_72  H
set_option maxRecDepth 20000 in
theorem zt_Reader_takeTestValue_29 {a b L N : Nat} {σ : zS} {τ : zT} {s0 : Int32} {o1 : Option Value} {o2 : Option Value} {r : Int32 × zS × zT} (H : zb_Reader_takeTestValue_29 N σ τ s0 = some r) : zx_go 2 69 29 [some (.ref 17), o1, o2] [.int s0] ((119, a, b), zx_pk (zK L) 119, σ, τ, zR) = some (some (.int r.1), ((119, a, b), zx_pk (zK L) 119, r.2.1, r.2.2, zR)) := by
  unfold zb_Reader_takeTestValue_29 at H
  rw [zs_istore_n (x := s0) (ls' := [some (.ref 17), some (.int s0), o2]) zd_69_29 (Nat.le_of_ble_eq_true rfl) rfl]
  rw [zs_iload_n (ls := [some (.ref 17), some (.int s0), o2]) zd_69_30 rfl]
  rw [zs_iconst (z := (-1)) zd_69_31 (by decide)]
  by_cases c2 : ¬ s0 = (-1)
  · rw [if_pos c2] at H
    rw [zp_icmp_ne_t (x := s0) (y := (-1)) (t := 52) zd_69_32 rfl c2]
    exact zt_Reader_takeTestValue_52  H
  · rw [if_neg c2] at H
    rw [zp_icmp_ne_f (x := s0) (y := (-1)) (t := 52) zd_69_32 rfl c2]
    rw [zs_aload_n (ls := [some (.ref 17), some (.int s0), o2]) zd_69_35 rfl]
    rw [zs_getR (n := 119) (K := zx_pk (zK L) 119) (ρ := zR) (c := 7) (k := 1) (q := 17) (p := 25) zd_69_36 rfl rfl rfl (by decide) rfl]
    rw [zp_getI (n := 119) (K := zx_pk (zK L) 119) (σ := σ) (c := 9) (k := 7) (q := 25) (v := (σ 25 7)) zd_69_39 rfl rfl rfl (by decide) rfl]
    rw [zs_iconst (z := 2) zd_69_42 (by decide)]
    by_cases c5 : (σ 25 7) = 2
    · rw [if_pos c5] at H
      rw [zp_icmp_eq_t (x := (σ 25 7)) (y := 2) (t := 52) zd_69_43 rfl c5]
      exact zt_Reader_takeTestValue_52  H
    · rw [if_neg c5] at H
      rw [zp_icmp_eq_f (x := (σ 25 7)) (y := 2) (t := 52) zd_69_43 rfl c5]
      rw [zs_aload_n (ls := [some (.ref 17), some (.int s0), o2]) zd_69_46 rfl]
      obtain ⟨r6, hr6, H⟩ := Option.bind_eq_some_iff.mp H
      rw [zp_callVv (st := [.ref 17]) (as := [.ref 17]) (rest := []) (e := 1) zd_69_47 rfl (by decide +kernel) (by decide) rfl rfl (Nat.le_of_ble_eq_true rfl) (zx_rcb_ok rfl (show 17 < 119 by decide)) (Nat.le_of_ble_eq_true rfl) rfl (by decide) (zt_Reader_failAtWrongToken hr6)]
      rw [zs_iconst (z := (-1)) zd_69_50 (by decide)]
      have H := Option.some.inj H
      subst H
      exact zs_ireturn zd_69_51 (by decide +kernel)
set_option maxRecDepth 20000 in
theorem zt_Reader_takeTestValue {a b L N : Nat} {σ : zS} {τ : zT} {r : Int32 × zS × zT} (H : zf_Reader_takeTestValue N σ τ = some r) : zx_go 2 69 0 [some (.ref 17), none, none] [] ((119, a, b), zx_pk (zK L) 119, σ, τ, zR) = some (some (.int r.1), ((119, a, b), zx_pk (zK L) 119, r.2.1, r.2.2, zR)) := by
  unfold zf_Reader_takeTestValue at H
  rw [zs_aload_n (ls := [some (.ref 17), none, none]) zd_69_0 rfl]
  rw [zs_getR (n := 119) (K := zx_pk (zK L) 119) (ρ := zR) (c := 7) (k := 1) (q := 17) (p := 25) zd_69_1 rfl rfl rfl (by decide) rfl]
  rw [zp_getI (n := 119) (K := zx_pk (zK L) 119) (σ := σ) (c := 9) (k := 7) (q := 25) (v := (σ 25 7)) zd_69_4 rfl rfl rfl (by decide) rfl]
  rw [zs_iconst (z := 3) zd_69_7 (by decide)]
  by_cases c1 : ¬ (σ 25 7) = 3
  · rw [if_pos c1] at H
    rw [zp_icmp_ne_t (x := (σ 25 7)) (y := 3) (t := 28) zd_69_8 rfl c1]
    rw [zs_iconst (z := (-1)) zd_69_28 (by decide)]
    exact zt_Reader_takeTestValue_29  H
  · rw [if_neg c1] at H
    rw [zp_icmp_ne_f (x := (σ 25 7)) (y := 3) (t := 28) zd_69_8 rfl c1]
    rw [zs_aload_n (ls := [some (.ref 17), none, none]) zd_69_11 rfl]
    rw [zs_getR (n := 119) (K := zx_pk (zK L) 119) (ρ := zR) (c := 7) (k := 2) (q := 17) (p := 18) zd_69_12 rfl rfl rfl (by decide) rfl]
    rw [zs_aload_n (ls := [some (.ref 17), none, none]) zd_69_15 rfl]
    rw [zs_getR (n := 119) (K := zx_pk (zK L) 119) (ρ := zR) (c := 7) (k := 1) (q := 17) (p := 25) zd_69_16 rfl rfl rfl (by decide) rfl]
    rw [zp_getL (n := 119) (K := zx_pk (zK L) 119) (τ := τ) (c := 9) (k := 9) (q := 25) (v := (τ 25 9)) zd_69_19 rfl rfl rfl (by decide) rfl]
    obtain ⟨r7, hr7, H⟩ := Option.bind_eq_some_iff.mp H
    rw [zp_callVi (x := r7) (st := [.long (τ 25 9), .ref 18]) (as := [.ref 18, .long (τ 25 9)]) (rest := []) (e := 0) zd_69_22 rfl (by decide +kernel) (by decide) rfl rfl (Nat.le_of_ble_eq_true rfl) (zx_rcb_ok rfl (show 18 < 119 by decide)) (Nat.le_of_ble_eq_true rfl) rfl (by decide) (zt_Names_localOf hr7)]
    rw [zs_goto (t := 29) zd_69_25 rfl]
    exact zt_Reader_takeTestValue_29  H
set_option maxRecDepth 20000 in
theorem zt_Weaver_work {a b L : Nat} {σ : zS} {τ : zT} {x1 : Int32} {x2 : Int32} {x3 : Int32} {x4 : Int32} {r : zS} (H : zf_Weaver_work σ x1 x2 x3 x4 = some r) : zx_go 1 57 0 [some (.ref 29), some (.int x1), some (.int x2), some (.int x3), some (.int x4), none] [] ((119, a, b), zx_pk (zK L) 119, σ, τ, zR) = some (none, ((119, a, b), zx_pk (zK L) 119, r, τ, zR)) := by
  unfold zf_Weaver_work at H
  rw [zs_aload_n (ls := [some (.ref 29), some (.int x1), some (.int x2), some (.int x3), some (.int x4), none]) zd_57_0 rfl]
  rw [zs_getR (n := 119) (K := zx_pk (zK L) 119) (ρ := zR) (c := 10) (k := 0) (q := 29) (p := 4) zd_57_1 rfl rfl rfl (by decide) rfl]
  rw [zs_aload_n (ls := [some (.ref 29), some (.int x1), some (.int x2), some (.int x3), some (.int x4), none]) zd_57_4 rfl]
  rw [zp_getI (n := 119) (K := zx_pk (zK L) 119) (σ := σ) (c := 10) (k := 8) (q := 29) (v := (σ 29 8)) zd_57_5 rfl rfl rfl (by decide) rfl]
  rw [zs_aload_n (ls := [some (.ref 29), some (.int x1), some (.int x2), some (.int x3), some (.int x4), none]) zd_57_8 rfl]
  rw [zp_getI (n := 119) (K := zx_pk (zK L) 119) (σ := σ) (c := 10) (k := 7) (q := 29) (v := (σ 29 7)) zd_57_9 rfl rfl rfl (by decide) rfl]
  obtain ⟨r1, hr1, H⟩ := Option.bind_eq_some_iff.mp H
  rw [zp_callVi (x := r1) (st := [.int (σ 29 7), .int (σ 29 8), .ref 4]) (as := [.ref 4, .int (σ 29 8), .int (σ 29 7)]) (rest := []) (e := 0) zd_57_12 rfl (by decide +kernel) (by decide) rfl rfl (Nat.le_of_ble_eq_true rfl) (zx_rcb_ok rfl (show 4 < 119 by decide)) (Nat.le_of_ble_eq_true rfl) rfl (by decide) (zt_Program_slotOf hr1)]
  rw [zs_istore (x := r1) (ls' := [some (.ref 29), some (.int x1), some (.int x2), some (.int x3), some (.int x4), some (.int r1)]) zd_57_15 (Nat.le_of_ble_eq_true rfl) rfl]
  rw [zs_aload_n (ls := [some (.ref 29), some (.int x1), some (.int x2), some (.int x3), some (.int x4), some (.int r1)]) zd_57_17 rfl]
  rw [zs_getR (n := 119) (K := zx_pk (zK L) 119) (ρ := zR) (c := 10) (k := 0) (q := 29) (p := 4) zd_57_18 rfl rfl rfl (by decide) rfl]
  rw [zs_getR (n := 119) (K := zx_pk (zK L) 119) (ρ := zR) (c := 6) (k := 15) (q := 4) (p := 13) zd_57_21 rfl rfl rfl (by decide) rfl]
  rw [zs_iload (ls := [some (.ref 29), some (.int x1), some (.int x2), some (.int x3), some (.int x4), some (.int r1)]) zd_57_24 rfl]
  rw [zs_iload_n (ls := [some (.ref 29), some (.int x1), some (.int x2), some (.int x3), some (.int x4), some (.int r1)]) zd_57_26 rfl]
  by_cases c2 : 0 ≤ r1 ∧ r1 < 97
  · rw [if_pos c2] at H
    rw [zp_iastore (n := 119) (K := zx_pk (zK L) 119) (q := 13) (m := 97) (i := r1) (k := r1.toNatClampNeg) (x := x1) (z := x1) zd_57_27 rfl ⟨by decide, by decide⟩ (zJ_in c2 rfl) rfl rfl]
    rw [zs_aload_n (ls := [some (.ref 29), some (.int x1), some (.int x2), some (.int x3), some (.int x4), some (.int r1)]) zd_57_28 rfl]
    rw [zs_getR (n := 119) (K := zx_pk (zK L) 119) (ρ := zR) (c := 10) (k := 0) (q := 29) (p := 4) zd_57_29 rfl rfl rfl (by decide) rfl]
    rw [zs_getR (n := 119) (K := zx_pk (zK L) 119) (ρ := zR) (c := 6) (k := 16) (q := 4) (p := 14) zd_57_32 rfl rfl rfl (by decide) rfl]
    rw [zs_iload (ls := [some (.ref 29), some (.int x1), some (.int x2), some (.int x3), some (.int x4), some (.int r1)]) zd_57_35 rfl]
    rw [zs_iload_n (ls := [some (.ref 29), some (.int x1), some (.int x2), some (.int x3), some (.int x4), some (.int r1)]) zd_57_37 rfl]
    by_cases c3 : 0 ≤ r1 ∧ r1 < 97
    · rw [if_pos c3] at H
      rw [zp_iastore (n := 119) (K := zx_pk (zK L) 119) (q := 14) (m := 97) (i := r1) (k := r1.toNatClampNeg) (x := x2) (z := x2) zd_57_38 rfl ⟨by decide, by decide⟩ (zJ_in c3 rfl) rfl rfl]
      rw [zs_aload_n (ls := [some (.ref 29), some (.int x1), some (.int x2), some (.int x3), some (.int x4), some (.int r1)]) zd_57_39 rfl]
      rw [zs_getR (n := 119) (K := zx_pk (zK L) 119) (ρ := zR) (c := 10) (k := 0) (q := 29) (p := 4) zd_57_40 rfl rfl rfl (by decide) rfl]
      rw [zs_getR (n := 119) (K := zx_pk (zK L) 119) (ρ := zR) (c := 6) (k := 17) (q := 4) (p := 15) zd_57_43 rfl rfl rfl (by decide) rfl]
      rw [zs_iload (ls := [some (.ref 29), some (.int x1), some (.int x2), some (.int x3), some (.int x4), some (.int r1)]) zd_57_46 rfl]
      rw [zs_iload_n (ls := [some (.ref 29), some (.int x1), some (.int x2), some (.int x3), some (.int x4), some (.int r1)]) zd_57_48 rfl]
      by_cases c4 : 0 ≤ r1 ∧ r1 < 97
      · rw [if_pos c4] at H
        rw [zp_iastore (n := 119) (K := zx_pk (zK L) 119) (q := 15) (m := 97) (i := r1) (k := r1.toNatClampNeg) (x := x3) (z := x3) zd_57_49 rfl ⟨by decide, by decide⟩ (zJ_in c4 rfl) rfl rfl]
        rw [zs_aload_n (ls := [some (.ref 29), some (.int x1), some (.int x2), some (.int x3), some (.int x4), some (.int r1)]) zd_57_50 rfl]
        rw [zs_getR (n := 119) (K := zx_pk (zK L) 119) (ρ := zR) (c := 10) (k := 0) (q := 29) (p := 4) zd_57_51 rfl rfl rfl (by decide) rfl]
        rw [zs_getR (n := 119) (K := zx_pk (zK L) 119) (ρ := zR) (c := 6) (k := 18) (q := 4) (p := 16) zd_57_54 rfl rfl rfl (by decide) rfl]
        rw [zs_iload (ls := [some (.ref 29), some (.int x1), some (.int x2), some (.int x3), some (.int x4), some (.int r1)]) zd_57_57 rfl]
        rw [zs_iload (ls := [some (.ref 29), some (.int x1), some (.int x2), some (.int x3), some (.int x4), some (.int r1)]) zd_57_59 rfl]
        by_cases c5 : 0 ≤ r1 ∧ r1 < 97
        · rw [if_pos c5] at H
          rw [zp_iastore (n := 119) (K := zx_pk (zK L) 119) (q := 16) (m := 97) (i := r1) (k := r1.toNatClampNeg) (x := x4) (z := x4) zd_57_61 rfl ⟨by decide, by decide⟩ (zJ_in c5 rfl) rfl rfl]
          have H := Option.some.inj H
          subst H
          exact zs_return zd_57_62 (by decide +kernel)
        · rw [if_neg c5] at H
          cases H
      · rw [if_neg c4] at H
        cases H
    · rw [if_neg c3] at H
      cases H
  · rw [if_neg c2] at H
    cases H
set_option maxRecDepth 20000 in
theorem zt_Reader_readTest_52 {a b L N : Nat} {σ : zS} {τ : zT} {v1 : Int32} {v2 : Int32} {v3 : Int32} {o4 : Option Value} {r : Int32 × zS × zT} (H : zb_Reader_readTest_52 N σ τ v1 v2 v3 = some r) : zx_go 3 68 52 [some (.ref 17), some (.int v1), some (.int v2), some (.int v3), o4] [] ((119, a, b), zx_pk (zK L) 119, σ, τ, zR) = some (some (.int r.1), ((119, a, b), zx_pk (zK L) 119, r.2.1, r.2.2, zR)) := by
  unfold zb_Reader_readTest_52 at H
  rw [zs_aload_n (ls := [some (.ref 17), some (.int v1), some (.int v2), some (.int v3), o4]) zd_68_52 rfl]
  rw [zs_getR (n := 119) (K := zx_pk (zK L) 119) (ρ := zR) (c := 7) (k := 1) (q := 17) (p := 25) zd_68_53 rfl rfl rfl (by decide) rfl]
  obtain ⟨r4, hr4, H⟩ := Option.bind_eq_some_iff.mp H
  rw [zp_callVv (st := [.ref 25]) (as := [.ref 25]) (rest := []) (e := 0) zd_68_56 rfl (by decide +kernel) (by decide) rfl rfl (Nat.le_of_ble_eq_true rfl) (zx_rcb_ok rfl (show 25 < 119 by decide)) (Nat.le_of_ble_eq_true rfl) rfl (by decide) (zt_Tokens_advance hr4)]
  rw [zs_aload_n (ls := [some (.ref 17), some (.int v1), some (.int v2), some (.int v3), o4]) zd_68_59 rfl]
  obtain ⟨r5, hr5, H⟩ := Option.bind_eq_some_iff.mp H
  rw [zp_callVi (x := r5.1) (st := [.ref 17]) (as := [.ref 17]) (rest := []) (e := 2) zd_68_60 rfl (by decide +kernel) (by decide) rfl rfl (Nat.le_of_ble_eq_true rfl) (zx_rcb_ok rfl (show 17 < 119 by decide)) (Nat.le_of_ble_eq_true rfl) rfl (by decide) (zt_Reader_takeTestValue hr5)]
  rw [zs_istore (x := r5.1) (ls' := [some (.ref 17), some (.int v1), some (.int v2), some (.int v3), some (.int r5.1)]) zd_68_63 (Nat.le_of_ble_eq_true rfl) rfl]
  rw [zs_iload (ls := [some (.ref 17), some (.int v1), some (.int v2), some (.int v3), some (.int r5.1)]) zd_68_65 rfl]
  rw [zs_iconst (z := (-1)) zd_68_67 (by decide)]
  by_cases c6 : ¬ r5.1 = (-1)
  · rw [if_pos c6] at H
    rw [zp_icmp_ne_t (x := r5.1) (y := (-1)) (t := 73) zd_68_68 rfl c6]
    rw [zs_aload_n (ls := [some (.ref 17), some (.int v1), some (.int v2), some (.int v3), some (.int r5.1)]) zd_68_73 rfl]
    rw [zs_getR (n := 119) (K := zx_pk (zK L) 119) (ρ := zR) (c := 7) (k := 3) (q := 17) (p := 29) zd_68_74 rfl rfl rfl (by decide) rfl]
    rw [zs_iload_n (ls := [some (.ref 17), some (.int v1), some (.int v2), some (.int v3), some (.int r5.1)]) zd_68_77 rfl]
    rw [zs_iconst (z := (-1)) zd_68_78 (by decide)]
    obtain ⟨r7, hr7, H⟩ := Option.bind_eq_some_iff.mp H
    rw [zp_callVv (st := [.int (-1), .int v1, .ref 29]) (as := [.ref 29, .int v1, .int (-1)]) (rest := []) (e := 1) zd_68_79 rfl (by decide +kernel) (by decide) rfl rfl (Nat.le_of_ble_eq_true rfl) (zx_rcb_ok rfl (show 29 < 119 by decide)) (Nat.le_of_ble_eq_true rfl) rfl (by decide) (zt_Weaver_emit hr7)]
    rw [zs_aload_n (ls := [some (.ref 17), some (.int v1), some (.int v2), some (.int v3), some (.int r5.1)]) zd_68_82 rfl]
    rw [zs_getR (n := 119) (K := zx_pk (zK L) 119) (ρ := zR) (c := 7) (k := 3) (q := 17) (p := 29) zd_68_83 rfl rfl rfl (by decide) rfl]
    rw [zs_iconst (z := (-1)) zd_68_86 (by decide)]
    rw [zs_iload_n (ls := [some (.ref 17), some (.int v1), some (.int v2), some (.int v3), some (.int r5.1)]) zd_68_87 rfl]
    rw [zs_iload_n (ls := [some (.ref 17), some (.int v1), some (.int v2), some (.int v3), some (.int r5.1)]) zd_68_88 rfl]
    rw [zs_iload (ls := [some (.ref 17), some (.int v1), some (.int v2), some (.int v3), some (.int r5.1)]) zd_68_89 rfl]
    obtain ⟨r8, hr8, H⟩ := Option.bind_eq_some_iff.mp H
    rw [zp_callVv (st := [.int r5.1, .int v3, .int v2, .int (-1), .ref 29]) (as := [.ref 29, .int (-1), .int v2, .int v3, .int r5.1]) (rest := []) (e := 1) zd_68_91 rfl (by decide +kernel) (by decide) rfl rfl (Nat.le_of_ble_eq_true rfl) (zx_rcb_ok rfl (show 29 < 119 by decide)) (Nat.le_of_ble_eq_true rfl) rfl (by decide) (zt_Weaver_work hr8)]
    rw [zs_iconst (z := 1) zd_68_94 (by decide)]
    have H := Option.some.inj H
    subst H
    exact zs_ireturn zd_68_95 (by decide +kernel)
  · rw [if_neg c6] at H
    rw [zp_icmp_ne_f (x := r5.1) (y := (-1)) (t := 73) zd_68_68 rfl c6]
    rw [zs_iconst (z := 0) zd_68_71 (by decide)]
    have H := Option.some.inj H
    subst H
    exact zs_ireturn zd_68_72 (by decide +kernel)
set_option maxRecDepth 20000 in
theorem zt_Reader_readTest {a b L N : Nat} {σ : zS} {τ : zT} {x1 : Int32} {r : Int32 × zS × zT} (H : zf_Reader_readTest N σ τ x1 = some r) : zx_go 3 68 0 [some (.ref 17), some (.int x1), none, none, none] [] ((119, a, b), zx_pk (zK L) 119, σ, τ, zR) = some (some (.int r.1), ((119, a, b), zx_pk (zK L) 119, r.2.1, r.2.2, zR)) := by
  unfold zf_Reader_readTest at H
  rw [zs_aload_n (ls := [some (.ref 17), some (.int x1), none, none, none]) zd_68_0 rfl]
  obtain ⟨r1, hr1, H⟩ := Option.bind_eq_some_iff.mp H
  rw [zp_callVi (x := r1.1) (st := [.ref 17]) (as := [.ref 17]) (rest := []) (e := 2) zd_68_1 rfl (by decide +kernel) (by decide) rfl rfl (Nat.le_of_ble_eq_true rfl) (zx_rcb_ok rfl (show 17 < 119 by decide)) (Nat.le_of_ble_eq_true rfl) rfl (by decide) (zt_Reader_takeTestValue hr1)]
  rw [zs_istore_n (x := r1.1) (ls' := [some (.ref 17), some (.int x1), some (.int r1.1), none, none]) zd_68_4 (Nat.le_of_ble_eq_true rfl) rfl]
  rw [zs_iload_n (ls := [some (.ref 17), some (.int x1), some (.int r1.1), none, none]) zd_68_5 rfl]
  rw [zs_iconst (z := (-1)) zd_68_6 (by decide)]
  by_cases c2 : ¬ r1.1 = (-1)
  · rw [if_pos c2] at H
    rw [zp_icmp_ne_t (x := r1.1) (y := (-1)) (t := 12) zd_68_7 rfl c2]
    rw [zs_aload_n (ls := [some (.ref 17), some (.int x1), some (.int r1.1), none, none]) zd_68_12 rfl]
    rw [zs_getR (n := 119) (K := zx_pk (zK L) 119) (ρ := zR) (c := 7) (k := 1) (q := 17) (p := 25) zd_68_13 rfl rfl rfl (by decide) rfl]
    rw [zp_getI (n := 119) (K := zx_pk (zK L) 119) (σ := r1.2.1) (c := 9) (k := 7) (q := 25) (v := (r1.2.1 25 7)) zd_68_16 rfl rfl rfl (by decide) rfl]
    rw [zs_istore_n (x := (r1.2.1 25 7)) (ls' := [some (.ref 17), some (.int x1), some (.int r1.1), some (.int (r1.2.1 25 7)), none]) zd_68_19 (Nat.le_of_ble_eq_true rfl) rfl]
    rw [zs_iload_n (ls := [some (.ref 17), some (.int x1), some (.int r1.1), some (.int (r1.2.1 25 7)), none]) zd_68_20 rfl]
    rw [zs_sipush (z := 256) zd_68_21 (by decide)]
    by_cases c3 : (r1.2.1 25 7) = 256
    · rw [if_pos c3] at H
      rw [zp_icmp_eq_t (x := (r1.2.1 25 7)) (y := 256) (t := 52) zd_68_24 rfl c3]
      exact zt_Reader_readTest_52  H
    · rw [if_neg c3] at H
      rw [zp_icmp_eq_f (x := (r1.2.1 25 7)) (y := 256) (t := 52) zd_68_24 rfl c3]
      rw [zs_iload_n (ls := [some (.ref 17), some (.int x1), some (.int r1.1), some (.int (r1.2.1 25 7)), none]) zd_68_27 rfl]
      rw [zs_sipush (z := 257) zd_68_28 (by decide)]
      by_cases c9 : (r1.2.1 25 7) = 257
      · rw [if_pos c9] at H
        rw [zp_icmp_eq_t (x := (r1.2.1 25 7)) (y := 257) (t := 52) zd_68_31 rfl c9]
        exact zt_Reader_readTest_52  H
      · rw [if_neg c9] at H
        rw [zp_icmp_eq_f (x := (r1.2.1 25 7)) (y := 257) (t := 52) zd_68_31 rfl c9]
        rw [zs_iload_n (ls := [some (.ref 17), some (.int x1), some (.int r1.1), some (.int (r1.2.1 25 7)), none]) zd_68_34 rfl]
        rw [zs_bipush (z := 60) zd_68_35 (by decide)]
        by_cases c10 : (r1.2.1 25 7) = 60
        · rw [if_pos c10] at H
          rw [zp_icmp_eq_t (x := (r1.2.1 25 7)) (y := 60) (t := 52) zd_68_37 rfl c10]
          exact zt_Reader_readTest_52  H
        · rw [if_neg c10] at H
          rw [zp_icmp_eq_f (x := (r1.2.1 25 7)) (y := 60) (t := 52) zd_68_37 rfl c10]
          rw [zs_iload_n (ls := [some (.ref 17), some (.int x1), some (.int r1.1), some (.int (r1.2.1 25 7)), none]) zd_68_40 rfl]
          rw [zs_bipush (z := 62) zd_68_41 (by decide)]
          by_cases c11 : (r1.2.1 25 7) = 62
          · rw [if_pos c11] at H
            rw [zp_icmp_eq_t (x := (r1.2.1 25 7)) (y := 62) (t := 52) zd_68_43 rfl c11]
            exact zt_Reader_readTest_52  H
          · rw [if_neg c11] at H
            rw [zp_icmp_eq_f (x := (r1.2.1 25 7)) (y := 62) (t := 52) zd_68_43 rfl c11]
            rw [zs_aload_n (ls := [some (.ref 17), some (.int x1), some (.int r1.1), some (.int (r1.2.1 25 7)), none]) zd_68_46 rfl]
            rw [zs_iconst (z := 2) zd_68_47 (by decide)]
            obtain ⟨r12, hr12, H⟩ := Option.bind_eq_some_iff.mp H
            rw [zp_callVi (x := r12.1) (st := [.int 2, .ref 17]) (as := [.ref 17, .int 2]) (rest := []) (e := 0) zd_68_48 rfl (by decide +kernel) (by decide) rfl rfl (Nat.le_of_ble_eq_true rfl) (zx_rcb_ok rfl (show 17 < 119 by decide)) (Nat.le_of_ble_eq_true rfl) rfl (by decide) (zt_Reader_failHere hr12)]
            by_cases c13 : r12.1 = 0 ∨ r12.1 = 1
            · rw [if_pos c13] at H
              have H := Option.some.inj H
              subst H
              exact zs_ireturn zd_68_51 (zJ_bt c13)
            · rw [if_neg c13] at H
              cases H
  · rw [if_neg c2] at H
    rw [zp_icmp_ne_f (x := r1.1) (y := (-1)) (t := 12) zd_68_7 rfl c2]
    rw [zs_iconst (z := 0) zd_68_10 (by decide)]
    have H := Option.some.inj H
    subst H
    exact zs_ireturn zd_68_11 (by decide +kernel)
set_option maxRecDepth 20000 in
theorem zt_Reader_readCheck {a b L N : Nat} {σ : zS} {τ : zT} {r : zS × zT} (H : zf_Reader_readCheck N σ τ = some r) : zx_go 4 72 0 [some (.ref 17)] [] ((119, a, b), zx_pk (zK L) 119, σ, τ, zR) = some (none, ((119, a, b), zx_pk (zK L) 119, r.1, r.2, zR)) := by
  unfold zf_Reader_readCheck at H
  rw [zs_aload_n (ls := [some (.ref 17)]) zd_72_0 rfl]
  obtain ⟨r1, hr1, H⟩ := Option.bind_eq_some_iff.mp H
  rw [zp_callVi (x := r1.1) (st := [.ref 17]) (as := [.ref 17]) (rest := []) (e := 2) zd_72_1 rfl (by decide +kernel) (by decide) rfl rfl (Nat.le_of_ble_eq_true rfl) (zx_rcb_ok rfl (show 17 < 119 by decide)) (Nat.le_of_ble_eq_true rfl) rfl (by decide) (zt_Reader_hasRoomForStep hr1)]
  by_cases c2 : r1.1 = 0
  · rw [if_pos c2] at H
    rw [zp_if_eq_t (x := r1.1) (t := 30) zd_72_4 rfl c2]
    have H := Option.some.inj H
    subst H
    exact zs_return zd_72_30 (by decide +kernel)
  · rw [if_neg c2] at H
    rw [zp_if_eq_f (x := r1.1) (t := 30) zd_72_4 rfl c2]
    rw [zs_aload_n (ls := [some (.ref 17)]) zd_72_7 rfl]
    rw [zs_getR (n := 119) (K := zx_pk (zK L) 119) (ρ := zR) (c := 7) (k := 1) (q := 17) (p := 25) zd_72_8 rfl rfl rfl (by decide) rfl]
    obtain ⟨r3, hr3, H⟩ := Option.bind_eq_some_iff.mp H
    rw [zp_callVv (st := [.ref 25]) (as := [.ref 25]) (rest := []) (e := 0) zd_72_11 rfl (by decide +kernel) (by decide) rfl rfl (Nat.le_of_ble_eq_true rfl) (zx_rcb_ok rfl (show 25 < 119 by decide)) (Nat.le_of_ble_eq_true rfl) rfl (by decide) (zt_Tokens_advance hr3)]
    rw [zs_aload_n (ls := [some (.ref 17)]) zd_72_14 rfl]
    rw [zs_bipush (z := 12) zd_72_15 (by decide)]
    obtain ⟨r4, hr4, H⟩ := Option.bind_eq_some_iff.mp H
    rw [zp_callVi (x := r4.1) (st := [.int 12, .ref 17]) (as := [.ref 17, .int 12]) (rest := []) (e := 3) zd_72_17 rfl (by decide +kernel) (by decide) rfl rfl (Nat.le_of_ble_eq_true rfl) (zx_rcb_ok rfl (show 17 < 119 by decide)) (Nat.le_of_ble_eq_true rfl) rfl (by decide) (zt_Reader_readTest hr4)]
    by_cases c5 : r4.1 = 0
    · rw [if_pos c5] at H
      rw [zp_if_eq_t (x := r4.1) (t := 30) zd_72_20 rfl c5]
      have H := Option.some.inj H
      subst H
      exact zs_return zd_72_30 (by decide +kernel)
    · rw [if_neg c5] at H
      rw [zp_if_eq_f (x := r4.1) (t := 30) zd_72_20 rfl c5]
      rw [zs_aload_n (ls := [some (.ref 17)]) zd_72_23 rfl]
      rw [zs_bipush (z := 59) zd_72_24 (by decide)]
      obtain ⟨r6, hr6, H⟩ := Option.bind_eq_some_iff.mp H
      rw [zp_callVi (x := r6.1) (st := [.int 59, .ref 17]) (as := [.ref 17, .int 59]) (rest := []) (e := 1) zd_72_26 rfl (by decide +kernel) (by decide) rfl rfl (Nat.le_of_ble_eq_true rfl) (zx_rcb_ok rfl (show 17 < 119 by decide)) (Nat.le_of_ble_eq_true rfl) rfl (by decide) (zt_Reader_expect hr6)]
      rw [zs_pop (a := .int r6.1) zd_72_29 rfl]
      have H := Option.some.inj H
      subst H
      exact zs_return zd_72_30 (by decide +kernel)
set_option maxRecDepth 20000 in
theorem zt_Reader_readThreadStep_126 {a b L N : Nat} {σ : zS} {τ : zT} {o1 : Option Value} {o2 : Option Value} {o3 : Option Value} {r : zS × zT} (H : zb_Reader_readThreadStep_126 N σ τ = some r) : zx_go 3 71 126 [some (.ref 17), o1, o2, o3] [] ((119, a, b), zx_pk (zK L) 119, σ, τ, zR) = some (none, ((119, a, b), zx_pk (zK L) 119, r.1, r.2, zR)) := by
  unfold zb_Reader_readThreadStep_126 at H
  rw [zs_aload_n (ls := [some (.ref 17), o1, o2, o3]) zd_71_126 rfl]
  rw [zs_getR (n := 119) (K := zx_pk (zK L) 119) (ρ := zR) (c := 7) (k := 1) (q := 17) (p := 25) zd_71_127 rfl rfl rfl (by decide) rfl]
  obtain ⟨r11, hr11, H⟩ := Option.bind_eq_some_iff.mp H
  rw [zp_callVv (st := [.ref 25]) (as := [.ref 25]) (rest := []) (e := 0) zd_71_130 rfl (by decide +kernel) (by decide) rfl rfl (Nat.le_of_ble_eq_true rfl) (zx_rcb_ok rfl (show 25 < 119 by decide)) (Nat.le_of_ble_eq_true rfl) rfl (by decide) (zt_Tokens_advance hr11)]
  rw [zs_aload_n (ls := [some (.ref 17), o1, o2, o3]) zd_71_133 rfl]
  rw [zs_bipush (z := 59) zd_71_134 (by decide)]
  obtain ⟨r12, hr12, H⟩ := Option.bind_eq_some_iff.mp H
  rw [zp_callVi (x := r12.1) (st := [.int 59, .ref 17]) (as := [.ref 17, .int 59]) (rest := []) (e := 1) zd_71_136 rfl (by decide +kernel) (by decide) rfl rfl (Nat.le_of_ble_eq_true rfl) (zx_rcb_ok rfl (show 17 < 119 by decide)) (Nat.le_of_ble_eq_true rfl) rfl (by decide) (zt_Reader_expect hr12)]
  rw [zs_pop (a := .int r12.1) zd_71_139 rfl]
  have H := Option.some.inj H
  subst H
  exact zs_return zd_71_140 (by decide +kernel)
set_option maxRecDepth 20000 in
theorem zt_Reader_readThreadStep_54 {a b L N : Nat} {σ : zS} {τ : zT} {o1 : Option Value} {o2 : Option Value} {o3 : Option Value} {r : zS × zT} (H : zb_Reader_readThreadStep_54 N σ τ = some r) : zx_go 3 71 54 [some (.ref 17), o1, o2, o3] [] ((119, a, b), zx_pk (zK L) 119, σ, τ, zR) = some (none, ((119, a, b), zx_pk (zK L) 119, r.1, r.2, zR)) := by
  unfold zb_Reader_readThreadStep_54 at H
  rw [zs_aload_n (ls := [some (.ref 17), o1, o2, o3]) zd_71_54 rfl]
  rw [zs_iconst (z := 2) zd_71_55 (by decide)]
  obtain ⟨r6, hr6, H⟩ := Option.bind_eq_some_iff.mp H
  rw [zp_callVi (x := r6.1) (st := [.int 2, .ref 17]) (as := [.ref 17, .int 2]) (rest := []) (e := 0) zd_71_56 rfl (by decide +kernel) (by decide) rfl rfl (Nat.le_of_ble_eq_true rfl) (zx_rcb_ok rfl (show 17 < 119 by decide)) (Nat.le_of_ble_eq_true rfl) rfl (by decide) (zt_Reader_failHere hr6)]
  rw [zs_pop (a := .int r6.1) zd_71_59 rfl]
  have H := Option.some.inj H
  subst H
  exact zs_return zd_71_60 (by decide +kernel)
set_option maxRecDepth 20000 in
theorem zt_Reader_readThreadStep_44 {a b L N : Nat} {σ : zS} {τ : zT} {v1 : Int32} {s0 : Int32} {o2 : Option Value} {o3 : Option Value} {r : zS × zT} (H : zb_Reader_readThreadStep_44 N σ τ v1 s0 = some r) : zx_go 3 71 44 [some (.ref 17), some (.int v1), o2, o3] [.int s0] ((119, a, b), zx_pk (zK L) 119, σ, τ, zR) = some (none, ((119, a, b), zx_pk (zK L) 119, r.1, r.2, zR)) := by
  unfold zb_Reader_readThreadStep_44 at H
  rw [zs_istore_n (x := s0) (ls' := [some (.ref 17), some (.int v1), some (.int s0), o3]) zd_71_44 (Nat.le_of_ble_eq_true rfl) rfl]
  rw [zs_iload_n (ls := [some (.ref 17), some (.int v1), some (.int s0), o3]) zd_71_45 rfl]
  by_cases c5 : s0 = 0
  · rw [if_pos c5] at H
    rw [zp_if_eq_t (x := s0) (t := 54) zd_71_46 rfl c5]
    exact zt_Reader_readThreadStep_54  H
  · rw [if_neg c5] at H
    rw [zp_if_eq_f (x := s0) (t := 54) zd_71_46 rfl c5]
    rw [zs_iload_n (ls := [some (.ref 17), some (.int v1), some (.int s0), o3]) zd_71_49 rfl]
    rw [zs_iconst (z := 1) zd_71_50 (by decide)]
    by_cases c7 : ¬ s0 = 1
    · rw [if_pos c7] at H
      rw [zp_icmp_ne_t (x := s0) (y := 1) (t := 61) zd_71_51 rfl c7]
      rw [zs_aload_n (ls := [some (.ref 17), some (.int v1), some (.int s0), o3]) zd_71_61 rfl]
      rw [zs_getR (n := 119) (K := zx_pk (zK L) 119) (ρ := zR) (c := 7) (k := 3) (q := 17) (p := 29) zd_71_62 rfl rfl rfl (by decide) rfl]
      rw [zs_iload_n (ls := [some (.ref 17), some (.int v1), some (.int s0), o3]) zd_71_65 rfl]
      rw [zs_iconst (z := (-1)) zd_71_66 (by decide)]
      obtain ⟨r8, hr8, H⟩ := Option.bind_eq_some_iff.mp H
      rw [zp_callVv (st := [.int (-1), .int v1, .ref 29]) (as := [.ref 29, .int v1, .int (-1)]) (rest := []) (e := 1) zd_71_67 rfl (by decide +kernel) (by decide) rfl rfl (Nat.le_of_ble_eq_true rfl) (zx_rcb_ok rfl (show 29 < 119 by decide)) (Nat.le_of_ble_eq_true rfl) rfl (by decide) (zt_Weaver_emit hr8)]
      rw [zs_aload_n (ls := [some (.ref 17), some (.int v1), some (.int s0), o3]) zd_71_70 rfl]
      rw [zs_getR (n := 119) (K := zx_pk (zK L) 119) (ρ := zR) (c := 7) (k := 0) (q := 17) (p := 4) zd_71_71 rfl rfl rfl (by decide) rfl]
      rw [zs_aload_n (ls := [some (.ref 17), some (.int v1), some (.int s0), o3]) zd_71_74 rfl]
      rw [zs_getR (n := 119) (K := zx_pk (zK L) 119) (ρ := zR) (c := 7) (k := 0) (q := 17) (p := 4) zd_71_75 rfl rfl rfl (by decide) rfl]
      rw [zp_getI (n := 119) (K := zx_pk (zK L) 119) (σ := r8) (c := 6) (k := 2) (q := 4) (v := (r8 4 2)) zd_71_78 rfl rfl rfl (by decide) rfl]
      rw [zs_iconst (z := 1) zd_71_81 (by decide)]
      rw [zp_isub (x := (r8 4 2)) (y := 1) (z := ((r8 4 2) - 1)) zd_71_82 rfl]
      rw [zs_aload_n (ls := [some (.ref 17), some (.int v1), some (.int s0), o3]) zd_71_83 rfl]
      rw [zs_getR (n := 119) (K := zx_pk (zK L) 119) (ρ := zR) (c := 7) (k := 3) (q := 17) (p := 29) zd_71_84 rfl rfl rfl (by decide) rfl]
      rw [zp_getI (n := 119) (K := zx_pk (zK L) 119) (σ := r8) (c := 10) (k := 7) (q := 29) (v := (r8 29 7)) zd_71_87 rfl rfl rfl (by decide) rfl]
      obtain ⟨r9, hr9, H⟩ := Option.bind_eq_some_iff.mp H
      rw [zp_callVi (x := r9) (st := [.int (r8 29 7), .int ((r8 4 2) - 1), .ref 4]) (as := [.ref 4, .int ((r8 4 2) - 1), .int (r8 29 7)]) (rest := []) (e := 0) zd_71_90 rfl (by decide +kernel) (by decide) rfl rfl (Nat.le_of_ble_eq_true rfl) (zx_rcb_ok rfl (show 4 < 119 by decide)) (Nat.le_of_ble_eq_true rfl) rfl (by decide) (zt_Program_slotOf hr9)]
      rw [zs_istore_n (x := r9) (ls' := [some (.ref 17), some (.int v1), some (.int s0), some (.int r9)]) zd_71_93 (Nat.le_of_ble_eq_true rfl) rfl]
      rw [zs_iload_n (ls := [some (.ref 17), some (.int v1), some (.int s0), some (.int r9)]) zd_71_94 rfl]
      rw [zs_bipush (z := 96) zd_71_95 (by decide)]
      by_cases c10 : 96 ≤ r9
      · rw [if_pos c10] at H
        rw [zp_icmp_ge_t (x := r9) (y := 96) (t := 126) zd_71_97 rfl c10]
        exact zt_Reader_readThreadStep_126  H
      · rw [if_neg c10] at H
        rw [zp_icmp_ge_f (x := r9) (y := 96) (t := 126) zd_71_97 rfl c10]
        rw [zs_aload_n (ls := [some (.ref 17), some (.int v1), some (.int s0), some (.int r9)]) zd_71_100 rfl]
        rw [zs_getR (n := 119) (K := zx_pk (zK L) 119) (ρ := zR) (c := 7) (k := 4) (q := 17) (p := 23) zd_71_101 rfl rfl rfl (by decide) rfl]
        rw [zs_iload_n (ls := [some (.ref 17), some (.int v1), some (.int s0), some (.int r9)]) zd_71_104 rfl]
        rw [zs_aload_n (ls := [some (.ref 17), some (.int v1), some (.int s0), some (.int r9)]) zd_71_105 rfl]
        rw [zs_getR (n := 119) (K := zx_pk (zK L) 119) (ρ := zR) (c := 7) (k := 1) (q := 17) (p := 25) zd_71_106 rfl rfl rfl (by decide) rfl]
        rw [zp_getL (n := 119) (K := zx_pk (zK L) 119) (τ := τ) (c := 9) (k := 9) (q := 25) (v := (τ 25 9)) zd_71_109 rfl rfl rfl (by decide) rfl]
        by_cases c13 : 0 ≤ r9 ∧ r9 < 96
        · rw [if_pos c13] at H
          rw [zp_lastore (n := 119) (K := zx_pk (zK L) 119) (q := 23) (m := 96) (i := r9) (k := r9.toNatClampNeg) (x := (τ 25 9)) (z := (τ 25 9)) zd_71_112 rfl ⟨by decide, by decide⟩ (zJ_in c13 rfl) rfl rfl]
          rw [zs_aload_n (ls := [some (.ref 17), some (.int v1), some (.int s0), some (.int r9)]) zd_71_113 rfl]
          rw [zs_getR (n := 119) (K := zx_pk (zK L) 119) (ρ := zR) (c := 7) (k := 5) (q := 17) (p := 24) zd_71_114 rfl rfl rfl (by decide) rfl]
          rw [zs_iload_n (ls := [some (.ref 17), some (.int v1), some (.int s0), some (.int r9)]) zd_71_117 rfl]
          rw [zs_aload_n (ls := [some (.ref 17), some (.int v1), some (.int s0), some (.int r9)]) zd_71_118 rfl]
          rw [zs_getR (n := 119) (K := zx_pk (zK L) 119) (ρ := zR) (c := 7) (k := 1) (q := 17) (p := 25) zd_71_119 rfl rfl rfl (by decide) rfl]
          rw [zp_getI (n := 119) (K := zx_pk (zK L) 119) (σ := r8) (c := 9) (k := 8) (q := 25) (v := (r8 25 8)) zd_71_122 rfl rfl rfl (by decide) rfl]
          by_cases c14 : 0 ≤ r9 ∧ r9 < 96
          · rw [if_pos c14] at H
            rw [zp_iastore (n := 119) (K := zx_pk (zK L) 119) (q := 24) (m := 96) (i := r9) (k := r9.toNatClampNeg) (x := (r8 25 8)) (z := (r8 25 8)) zd_71_125 rfl ⟨by decide, by decide⟩ (zJ_in c14 rfl) rfl rfl]
            exact zt_Reader_readThreadStep_126  H
          · rw [if_neg c14] at H
            cases H
        · rw [if_neg c13] at H
          cases H
    · rw [if_neg c7] at H
      rw [zp_icmp_ne_f (x := s0) (y := 1) (t := 61) zd_71_51 rfl c7]
      exact zt_Reader_readThreadStep_54  H
set_option maxRecDepth 20000 in
theorem zt_Reader_readThreadStep {a b L N : Nat} {σ : zS} {τ : zT} {x1 : Int32} {r : zS × zT} (H : zf_Reader_readThreadStep N σ τ x1 = some r) : zx_go 3 71 0 [some (.ref 17), some (.int x1), none, none] [] ((119, a, b), zx_pk (zK L) 119, σ, τ, zR) = some (none, ((119, a, b), zx_pk (zK L) 119, r.1, r.2, zR)) := by
  unfold zf_Reader_readThreadStep at H
  rw [zs_aload_n (ls := [some (.ref 17), some (.int x1), none, none]) zd_71_0 rfl]
  obtain ⟨r1, hr1, H⟩ := Option.bind_eq_some_iff.mp H
  rw [zp_callVi (x := r1.1) (st := [.ref 17]) (as := [.ref 17]) (rest := []) (e := 2) zd_71_1 rfl (by decide +kernel) (by decide) rfl rfl (Nat.le_of_ble_eq_true rfl) (zx_rcb_ok rfl (show 17 < 119 by decide)) (Nat.le_of_ble_eq_true rfl) rfl (by decide) (zt_Reader_hasRoomForStep hr1)]
  by_cases c2 : ¬ r1.1 = 0
  · rw [if_pos c2] at H
    rw [zp_if_ne_t (x := r1.1) (t := 8) zd_71_4 rfl c2]
    rw [zs_aload_n (ls := [some (.ref 17), some (.int x1), none, none]) zd_71_8 rfl]
    rw [zs_getR (n := 119) (K := zx_pk (zK L) 119) (ρ := zR) (c := 7) (k := 1) (q := 17) (p := 25) zd_71_9 rfl rfl rfl (by decide) rfl]
    obtain ⟨r3, hr3, H⟩ := Option.bind_eq_some_iff.mp H
    rw [zp_callVv (st := [.ref 25]) (as := [.ref 25]) (rest := []) (e := 0) zd_71_12 rfl (by decide +kernel) (by decide) rfl rfl (Nat.le_of_ble_eq_true rfl) (zx_rcb_ok rfl (show 25 < 119 by decide)) (Nat.le_of_ble_eq_true rfl) rfl (by decide) (zt_Tokens_advance hr3)]
    rw [zs_aload_n (ls := [some (.ref 17), some (.int x1), none, none]) zd_71_15 rfl]
    rw [zs_getR (n := 119) (K := zx_pk (zK L) 119) (ρ := zR) (c := 7) (k := 1) (q := 17) (p := 25) zd_71_16 rfl rfl rfl (by decide) rfl]
    rw [zp_getI (n := 119) (K := zx_pk (zK L) 119) (σ := r3.1) (c := 9) (k := 7) (q := 25) (v := (r3.1 25 7)) zd_71_19 rfl rfl rfl (by decide) rfl]
    rw [zs_iconst (z := 3) zd_71_22 (by decide)]
    by_cases c4 : ¬ (r3.1 25 7) = 3
    · rw [if_pos c4] at H
      rw [zp_icmp_ne_t (x := (r3.1 25 7)) (y := 3) (t := 43) zd_71_23 rfl c4]
      rw [zs_iconst (z := 0) zd_71_43 (by decide)]
      exact zt_Reader_readThreadStep_44  H
    · rw [if_neg c4] at H
      rw [zp_icmp_ne_f (x := (r3.1 25 7)) (y := 3) (t := 43) zd_71_23 rfl c4]
      rw [zs_aload_n (ls := [some (.ref 17), some (.int x1), none, none]) zd_71_26 rfl]
      rw [zs_getR (n := 119) (K := zx_pk (zK L) 119) (ρ := zR) (c := 7) (k := 2) (q := 17) (p := 18) zd_71_27 rfl rfl rfl (by decide) rfl]
      rw [zs_aload_n (ls := [some (.ref 17), some (.int x1), none, none]) zd_71_30 rfl]
      rw [zs_getR (n := 119) (K := zx_pk (zK L) 119) (ρ := zR) (c := 7) (k := 1) (q := 17) (p := 25) zd_71_31 rfl rfl rfl (by decide) rfl]
      rw [zp_getL (n := 119) (K := zx_pk (zK L) 119) (τ := r3.2) (c := 9) (k := 9) (q := 25) (v := (r3.2 25 9)) zd_71_34 rfl rfl rfl (by decide) rfl]
      obtain ⟨r15, hr15, H⟩ := Option.bind_eq_some_iff.mp H
      rw [zp_callVi (x := r15) (st := [.long (r3.2 25 9), .ref 18]) (as := [.ref 18, .long (r3.2 25 9)]) (rest := []) (e := 0) zd_71_37 rfl (by decide +kernel) (by decide) rfl rfl (Nat.le_of_ble_eq_true rfl) (zx_rcb_ok rfl (show 18 < 119 by decide)) (Nat.le_of_ble_eq_true rfl) rfl (by decide) (zt_Names_sortOf hr15)]
      rw [zs_goto (t := 44) zd_71_40 rfl]
      exact zt_Reader_readThreadStep_44  H
  · rw [if_neg c2] at H
    rw [zp_if_ne_f (x := r1.1) (t := 8) zd_71_4 rfl c2]
    have H := Option.some.inj H
    subst H
    exact zs_return zd_71_7 (by decide +kernel)
set_option maxRecDepth 20000 in
theorem zt_Reader_takeLockName_30 {a b L N : Nat} {σ : zS} {τ : zT} {s0 : Int32} {o1 : Option Value} {r : Int32 × zS × zT} (H : zb_Reader_takeLockName_30 N σ τ s0 = some r) : zx_go 2 65 30 [some (.ref 17), o1] [.int s0] ((119, a, b), zx_pk (zK L) 119, σ, τ, zR) = some (some (.int r.1), ((119, a, b), zx_pk (zK L) 119, r.2.1, r.2.2, zR)) := by
  unfold zb_Reader_takeLockName_30 at H
  rw [zs_istore_n (x := s0) (ls' := [some (.ref 17), some (.int s0)]) zd_65_30 (Nat.le_of_ble_eq_true rfl) rfl]
  rw [zs_iload_n (ls := [some (.ref 17), some (.int s0)]) zd_65_31 rfl]
  rw [zs_iconst (z := (-1)) zd_65_32 (by decide)]
  by_cases c2 : s0 = (-1)
  · rw [if_pos c2] at H
    rw [zp_icmp_eq_t (x := s0) (y := (-1)) (t := 45) zd_65_33 rfl c2]
    rw [zs_aload_n (ls := [some (.ref 17), some (.int s0)]) zd_65_45 rfl]
    obtain ⟨r3, hr3, H⟩ := Option.bind_eq_some_iff.mp H
    rw [zp_callVv (st := [.ref 17]) (as := [.ref 17]) (rest := []) (e := 1) zd_65_46 rfl (by decide +kernel) (by decide) rfl rfl (Nat.le_of_ble_eq_true rfl) (zx_rcb_ok rfl (show 17 < 119 by decide)) (Nat.le_of_ble_eq_true rfl) rfl (by decide) (zt_Reader_failAtWrongToken hr3)]
    rw [zs_iconst (z := (-1)) zd_65_49 (by decide)]
    have H := Option.some.inj H
    subst H
    exact zs_ireturn zd_65_50 (by decide +kernel)
  · rw [if_neg c2] at H
    rw [zp_icmp_eq_f (x := s0) (y := (-1)) (t := 45) zd_65_33 rfl c2]
    rw [zs_aload_n (ls := [some (.ref 17), some (.int s0)]) zd_65_36 rfl]
    rw [zs_getR (n := 119) (K := zx_pk (zK L) 119) (ρ := zR) (c := 7) (k := 1) (q := 17) (p := 25) zd_65_37 rfl rfl rfl (by decide) rfl]
    obtain ⟨r4, hr4, H⟩ := Option.bind_eq_some_iff.mp H
    rw [zp_callVv (st := [.ref 25]) (as := [.ref 25]) (rest := []) (e := 0) zd_65_40 rfl (by decide +kernel) (by decide) rfl rfl (Nat.le_of_ble_eq_true rfl) (zx_rcb_ok rfl (show 25 < 119 by decide)) (Nat.le_of_ble_eq_true rfl) rfl (by decide) (zt_Tokens_advance hr4)]
    rw [zs_iload_n (ls := [some (.ref 17), some (.int s0)]) zd_65_43 rfl]
    have H := Option.some.inj H
    subst H
    exact zs_ireturn zd_65_44 rfl
set_option maxRecDepth 20000 in
theorem zt_Reader_takeLockName {a b L N : Nat} {σ : zS} {τ : zT} {r : Int32 × zS × zT} (H : zf_Reader_takeLockName N σ τ = some r) : zx_go 2 65 0 [some (.ref 17), none] [] ((119, a, b), zx_pk (zK L) 119, σ, τ, zR) = some (some (.int r.1), ((119, a, b), zx_pk (zK L) 119, r.2.1, r.2.2, zR)) := by
  unfold zf_Reader_takeLockName at H
  rw [zs_aload_n (ls := [some (.ref 17), none]) zd_65_0 rfl]
  rw [zs_getR (n := 119) (K := zx_pk (zK L) 119) (ρ := zR) (c := 7) (k := 1) (q := 17) (p := 25) zd_65_1 rfl rfl rfl (by decide) rfl]
  rw [zp_getI (n := 119) (K := zx_pk (zK L) 119) (σ := σ) (c := 9) (k := 7) (q := 25) (v := (σ 25 7)) zd_65_4 rfl rfl rfl (by decide) rfl]
  rw [zs_iconst (z := 3) zd_65_7 (by decide)]
  by_cases c1 : ¬ (σ 25 7) = 3
  · rw [if_pos c1] at H
    rw [zp_icmp_ne_t (x := (σ 25 7)) (y := 3) (t := 29) zd_65_8 rfl c1]
    rw [zs_iconst (z := (-1)) zd_65_29 (by decide)]
    exact zt_Reader_takeLockName_30  H
  · rw [if_neg c1] at H
    rw [zp_icmp_ne_f (x := (σ 25 7)) (y := 3) (t := 29) zd_65_8 rfl c1]
    rw [zs_aload_n (ls := [some (.ref 17), none]) zd_65_11 rfl]
    rw [zs_getR (n := 119) (K := zx_pk (zK L) 119) (ρ := zR) (c := 7) (k := 2) (q := 17) (p := 18) zd_65_12 rfl rfl rfl (by decide) rfl]
    rw [zs_aload_n (ls := [some (.ref 17), none]) zd_65_15 rfl]
    rw [zs_getR (n := 119) (K := zx_pk (zK L) 119) (ρ := zR) (c := 7) (k := 1) (q := 17) (p := 25) zd_65_16 rfl rfl rfl (by decide) rfl]
    rw [zp_getL (n := 119) (K := zx_pk (zK L) 119) (τ := τ) (c := 9) (k := 9) (q := 25) (v := (τ 25 9)) zd_65_19 rfl rfl rfl (by decide) rfl]
    rw [zs_iconst (z := 1) zd_65_22 (by decide)]
    obtain ⟨r5, hr5, H⟩ := Option.bind_eq_some_iff.mp H
    rw [zp_callVi (x := r5) (st := [.int 1, .long (τ 25 9), .ref 18]) (as := [.ref 18, .long (τ 25 9), .int 1]) (rest := []) (e := 0) zd_65_23 rfl (by decide +kernel) (by decide) rfl rfl (Nat.le_of_ble_eq_true rfl) (zx_rcb_ok rfl (show 18 < 119 by decide)) (Nat.le_of_ble_eq_true rfl) rfl (by decide) (zt_Names_numberOf hr5)]
    rw [zs_goto (t := 30) zd_65_26 rfl]
    exact zt_Reader_takeLockName_30  H
set_option maxRecDepth 20000 in
theorem zt_Reader_readSignal_75 {a b L N : Nat} {σ : zS} {τ : zT} {v3 : Int32} {s0 : Int32} {o1 : Option Value} {o2 : Option Value} {r : zS × zT} (H : zb_Reader_readSignal_75 N σ τ v3 s0 = some r) : zx_go 3 70 75 [some (.ref 17), o1, o2, some (.int v3)] [.int s0, .ref 29] ((119, a, b), zx_pk (zK L) 119, σ, τ, zR) = some (none, ((119, a, b), zx_pk (zK L) 119, r.1, r.2, zR)) := by
  unfold zb_Reader_readSignal_75 at H
  rw [zs_iload_n (ls := [some (.ref 17), o1, o2, some (.int v3)]) zd_70_75 rfl]
  obtain ⟨r9, hr9, H⟩ := Option.bind_eq_some_iff.mp H
  rw [zp_callVv (st := [.int v3, .int s0, .ref 29]) (as := [.ref 29, .int s0, .int v3]) (rest := []) (e := 1) zd_70_76 rfl (by decide +kernel) (by decide) rfl rfl (Nat.le_of_ble_eq_true rfl) (zx_rcb_ok rfl (show 29 < 119 by decide)) (Nat.le_of_ble_eq_true rfl) rfl (by decide) (zt_Weaver_emit hr9)]
  rw [zs_aload_n (ls := [some (.ref 17), o1, o2, some (.int v3)]) zd_70_79 rfl]
  rw [zs_bipush (z := 59) zd_70_80 (by decide)]
  obtain ⟨r10, hr10, H⟩ := Option.bind_eq_some_iff.mp H
  rw [zp_callVi (x := r10.1) (st := [.int 59, .ref 17]) (as := [.ref 17, .int 59]) (rest := []) (e := 1) zd_70_82 rfl (by decide +kernel) (by decide) rfl rfl (Nat.le_of_ble_eq_true rfl) (zx_rcb_ok rfl (show 17 < 119 by decide)) (Nat.le_of_ble_eq_true rfl) rfl (by decide) (zt_Reader_expect hr10)]
  rw [zs_pop (a := .int r10.1) zd_70_85 rfl]
  have H := Option.some.inj H
  subst H
  exact zs_return zd_70_86 (by decide +kernel)
set_option maxRecDepth 20000 in
theorem zt_Reader_readSignal_51 {a b L N : Nat} {σ : zS} {τ : zT} {v1 : Int32} {v2 : Int32} {o3 : Option Value} {r : zS × zT} (H : zb_Reader_readSignal_51 N σ τ v1 v2 = some r) : zx_go 3 70 51 [some (.ref 17), some (.int v1), some (.int v2), o3] [] ((119, a, b), zx_pk (zK L) 119, σ, τ, zR) = some (none, ((119, a, b), zx_pk (zK L) 119, r.1, r.2, zR)) := by
  unfold zb_Reader_readSignal_51 at H
  rw [zs_aload_n (ls := [some (.ref 17), some (.int v1), some (.int v2), o3]) zd_70_51 rfl]
  obtain ⟨r6, hr6, H⟩ := Option.bind_eq_some_iff.mp H
  rw [zp_callVi (x := r6.1) (st := [.ref 17]) (as := [.ref 17]) (rest := []) (e := 2) zd_70_52 rfl (by decide +kernel) (by decide) rfl rfl (Nat.le_of_ble_eq_true rfl) (zx_rcb_ok rfl (show 17 < 119 by decide)) (Nat.le_of_ble_eq_true rfl) rfl (by decide) (zt_Reader_takeLockName hr6)]
  rw [zs_istore_n (x := r6.1) (ls' := [some (.ref 17), some (.int v1), some (.int v2), some (.int r6.1)]) zd_70_55 (Nat.le_of_ble_eq_true rfl) rfl]
  rw [zs_iload_n (ls := [some (.ref 17), some (.int v1), some (.int v2), some (.int r6.1)]) zd_70_56 rfl]
  rw [zs_iconst (z := (-1)) zd_70_57 (by decide)]
  by_cases c7 : r6.1 = (-1)
  · rw [if_pos c7] at H
    rw [zp_icmp_eq_t (x := r6.1) (y := (-1)) (t := 86) zd_70_58 rfl c7]
    have H := Option.some.inj H
    subst H
    exact zs_return zd_70_86 (by decide +kernel)
  · rw [if_neg c7] at H
    rw [zp_icmp_eq_f (x := r6.1) (y := (-1)) (t := 86) zd_70_58 rfl c7]
    rw [zs_aload_n (ls := [some (.ref 17), some (.int v1), some (.int v2), some (.int r6.1)]) zd_70_61 rfl]
    rw [zs_getR (n := 119) (K := zx_pk (zK L) 119) (ρ := zR) (c := 7) (k := 3) (q := 17) (p := 29) zd_70_62 rfl rfl rfl (by decide) rfl]
    rw [zs_iload_n (ls := [some (.ref 17), some (.int v1), some (.int v2), some (.int r6.1)]) zd_70_65 rfl]
    by_cases c8 : v2 = 0
    · rw [if_pos c8] at H
      rw [zp_if_eq_t (x := v2) (t := 74) zd_70_66 rfl c8]
      rw [zs_iload_n (ls := [some (.ref 17), some (.int v1), some (.int v2), some (.int r6.1)]) zd_70_74 rfl]
      exact zt_Reader_readSignal_75  H
    · rw [if_neg c8] at H
      rw [zp_if_eq_f (x := v2) (t := 74) zd_70_66 rfl c8]
      rw [zs_bipush (z := 9) zd_70_69 (by decide)]
      rw [zs_goto (t := 75) zd_70_71 rfl]
      exact zt_Reader_readSignal_75  H
set_option maxRecDepth 20000 in
theorem zt_Reader_readSignal_39 {a b L N : Nat} {σ : zS} {τ : zT} {v1 : Int32} {s0 : Int32} {o2 : Option Value} {o3 : Option Value} {r : zS × zT} (H : zb_Reader_readSignal_39 N σ τ v1 s0 = some r) : zx_go 3 70 39 [some (.ref 17), some (.int v1), o2, o3] [.int s0] ((119, a, b), zx_pk (zK L) 119, σ, τ, zR) = some (none, ((119, a, b), zx_pk (zK L) 119, r.1, r.2, zR)) := by
  unfold zb_Reader_readSignal_39 at H
  rw [zs_istore_n (x := s0) (ls' := [some (.ref 17), some (.int v1), some (.int s0), o3]) zd_70_39 (Nat.le_of_ble_eq_true rfl) rfl]
  rw [zs_iload_n (ls := [some (.ref 17), some (.int v1), some (.int s0), o3]) zd_70_40 rfl]
  by_cases c5 : s0 = 0
  · rw [if_pos c5] at H
    rw [zp_if_eq_t (x := s0) (t := 51) zd_70_41 rfl c5]
    exact zt_Reader_readSignal_51  H
  · rw [if_neg c5] at H
    rw [zp_if_eq_f (x := s0) (t := 51) zd_70_41 rfl c5]
    rw [zs_aload_n (ls := [some (.ref 17), some (.int v1), some (.int s0), o3]) zd_70_44 rfl]
    rw [zs_getR (n := 119) (K := zx_pk (zK L) 119) (ρ := zR) (c := 7) (k := 1) (q := 17) (p := 25) zd_70_45 rfl rfl rfl (by decide) rfl]
    obtain ⟨r11, hr11, H⟩ := Option.bind_eq_some_iff.mp H
    rw [zp_callVv (st := [.ref 25]) (as := [.ref 25]) (rest := []) (e := 0) zd_70_48 rfl (by decide +kernel) (by decide) rfl rfl (Nat.le_of_ble_eq_true rfl) (zx_rcb_ok rfl (show 25 < 119 by decide)) (Nat.le_of_ble_eq_true rfl) rfl (by decide) (zt_Tokens_advance hr11)]
    exact zt_Reader_readSignal_51  H
set_option maxRecDepth 20000 in
theorem zt_Reader_readSignal_38 {a b L N : Nat} {σ : zS} {τ : zT} {v1 : Int32} {o2 : Option Value} {o3 : Option Value} {r : zS × zT} (H : zb_Reader_readSignal_38 N σ τ v1 = some r) : zx_go 3 70 38 [some (.ref 17), some (.int v1), o2, o3] [] ((119, a, b), zx_pk (zK L) 119, σ, τ, zR) = some (none, ((119, a, b), zx_pk (zK L) 119, r.1, r.2, zR)) := by
  unfold zb_Reader_readSignal_38 at H
  rw [zs_iconst (z := 0) zd_70_38 (by decide)]
  exact zt_Reader_readSignal_39  H
set_option maxRecDepth 20000 in
theorem zt_Reader_readSignal {a b L N : Nat} {σ : zS} {τ : zT} {x1 : Int32} {r : zS × zT} (H : zf_Reader_readSignal N σ τ x1 = some r) : zx_go 3 70 0 [some (.ref 17), some (.int x1), none, none] [] ((119, a, b), zx_pk (zK L) 119, σ, τ, zR) = some (none, ((119, a, b), zx_pk (zK L) 119, r.1, r.2, zR)) := by
  unfold zf_Reader_readSignal at H
  rw [zs_aload_n (ls := [some (.ref 17), some (.int x1), none, none]) zd_70_0 rfl]
  obtain ⟨r1, hr1, H⟩ := Option.bind_eq_some_iff.mp H
  rw [zp_callVi (x := r1.1) (st := [.ref 17]) (as := [.ref 17]) (rest := []) (e := 2) zd_70_1 rfl (by decide +kernel) (by decide) rfl rfl (Nat.le_of_ble_eq_true rfl) (zx_rcb_ok rfl (show 17 < 119 by decide)) (Nat.le_of_ble_eq_true rfl) rfl (by decide) (zt_Reader_hasRoomForStep hr1)]
  by_cases c2 : ¬ r1.1 = 0
  · rw [if_pos c2] at H
    rw [zp_if_ne_t (x := r1.1) (t := 8) zd_70_4 rfl c2]
    rw [zs_aload_n (ls := [some (.ref 17), some (.int x1), none, none]) zd_70_8 rfl]
    rw [zs_getR (n := 119) (K := zx_pk (zK L) 119) (ρ := zR) (c := 7) (k := 1) (q := 17) (p := 25) zd_70_9 rfl rfl rfl (by decide) rfl]
    obtain ⟨r3, hr3, H⟩ := Option.bind_eq_some_iff.mp H
    rw [zp_callVv (st := [.ref 25]) (as := [.ref 25]) (rest := []) (e := 0) zd_70_12 rfl (by decide +kernel) (by decide) rfl rfl (Nat.le_of_ble_eq_true rfl) (zx_rcb_ok rfl (show 25 < 119 by decide)) (Nat.le_of_ble_eq_true rfl) rfl (by decide) (zt_Tokens_advance hr3)]
    rw [zs_iload_n (ls := [some (.ref 17), some (.int x1), none, none]) zd_70_15 rfl]
    rw [zs_bipush (z := 8) zd_70_16 (by decide)]
    by_cases c4 : ¬ x1 = 8
    · rw [if_pos c4] at H
      rw [zp_icmp_ne_t (x := x1) (y := 8) (t := 38) zd_70_18 rfl c4]
      exact zt_Reader_readSignal_38  H
    · rw [if_neg c4] at H
      rw [zp_icmp_ne_f (x := x1) (y := 8) (t := 38) zd_70_18 rfl c4]
      rw [zs_aload_n (ls := [some (.ref 17), some (.int x1), none, none]) zd_70_21 rfl]
      rw [zs_getR (n := 119) (K := zx_pk (zK L) 119) (ρ := zR) (c := 7) (k := 1) (q := 17) (p := 25) zd_70_22 rfl rfl rfl (by decide) rfl]
      rw [zp_getI (n := 119) (K := zx_pk (zK L) 119) (σ := r3.1) (c := 9) (k := 7) (q := 25) (v := (r3.1 25 7)) zd_70_25 rfl rfl rfl (by decide) rfl]
      rw [zs_sipush (z := 309) zd_70_28 (by decide)]
      by_cases c12 : ¬ (r3.1 25 7) = 309
      · rw [if_pos c12] at H
        rw [zp_icmp_ne_t (x := (r3.1 25 7)) (y := 309) (t := 38) zd_70_31 rfl c12]
        exact zt_Reader_readSignal_38  H
      · rw [if_neg c12] at H
        rw [zp_icmp_ne_f (x := (r3.1 25 7)) (y := 309) (t := 38) zd_70_31 rfl c12]
        rw [zs_iconst (z := 1) zd_70_34 (by decide)]
        rw [zs_goto (t := 39) zd_70_35 rfl]
        exact zt_Reader_readSignal_39  H
  · rw [if_neg c2] at H
    rw [zp_if_ne_f (x := r1.1) (t := 8) zd_70_4 rfl c2]
    have H := Option.some.inj H
    subst H
    exact zs_return zd_70_7 (by decide +kernel)
set_option maxRecDepth 20000 in
theorem zt_Reader_readBranch {a b L N : Nat} {σ : zS} {τ : zT} {x1 : Int32} {x2 : Int32} {r : zS × zT} (H : zf_Reader_readBranch N σ τ x1 x2 = some r) : zx_go 4 67 0 [some (.ref 17), some (.int x1), some (.int x2)] [] ((119, a, b), zx_pk (zK L) 119, σ, τ, zR) = some (none, ((119, a, b), zx_pk (zK L) 119, r.1, r.2, zR)) := by
  unfold zf_Reader_readBranch at H
  rw [zs_aload_n (ls := [some (.ref 17), some (.int x1), some (.int x2)]) zd_67_0 rfl]
  obtain ⟨r1, hr1, H⟩ := Option.bind_eq_some_iff.mp H
  rw [zp_callVi (x := r1.1) (st := [.ref 17]) (as := [.ref 17]) (rest := []) (e := 2) zd_67_1 rfl (by decide +kernel) (by decide) rfl rfl (Nat.le_of_ble_eq_true rfl) (zx_rcb_ok rfl (show 17 < 119 by decide)) (Nat.le_of_ble_eq_true rfl) rfl (by decide) (zt_Reader_hasRoomForStep hr1)]
  by_cases c2 : r1.1 = 0
  · rw [if_pos c2] at H
    rw [zp_if_eq_t (x := r1.1) (t := 34) zd_67_4 rfl c2]
    have H := Option.some.inj H
    subst H
    exact zs_return zd_67_34 (by decide +kernel)
  · rw [if_neg c2] at H
    rw [zp_if_eq_f (x := r1.1) (t := 34) zd_67_4 rfl c2]
    rw [zs_aload_n (ls := [some (.ref 17), some (.int x1), some (.int x2)]) zd_67_7 rfl]
    rw [zs_getR (n := 119) (K := zx_pk (zK L) 119) (ρ := zR) (c := 7) (k := 1) (q := 17) (p := 25) zd_67_8 rfl rfl rfl (by decide) rfl]
    obtain ⟨r3, hr3, H⟩ := Option.bind_eq_some_iff.mp H
    rw [zp_callVv (st := [.ref 25]) (as := [.ref 25]) (rest := []) (e := 0) zd_67_11 rfl (by decide +kernel) (by decide) rfl rfl (Nat.le_of_ble_eq_true rfl) (zx_rcb_ok rfl (show 25 < 119 by decide)) (Nat.le_of_ble_eq_true rfl) rfl (by decide) (zt_Tokens_advance hr3)]
    rw [zs_aload_n (ls := [some (.ref 17), some (.int x1), some (.int x2)]) zd_67_14 rfl]
    rw [zs_iload_n (ls := [some (.ref 17), some (.int x1), some (.int x2)]) zd_67_15 rfl]
    obtain ⟨r4, hr4, H⟩ := Option.bind_eq_some_iff.mp H
    rw [zp_callVi (x := r4.1) (st := [.int x1, .ref 17]) (as := [.ref 17, .int x1]) (rest := []) (e := 3) zd_67_16 rfl (by decide +kernel) (by decide) rfl rfl (Nat.le_of_ble_eq_true rfl) (zx_rcb_ok rfl (show 17 < 119 by decide)) (Nat.le_of_ble_eq_true rfl) rfl (by decide) (zt_Reader_readTest hr4)]
    by_cases c5 : r4.1 = 0
    · rw [if_pos c5] at H
      rw [zp_if_eq_t (x := r4.1) (t := 34) zd_67_19 rfl c5]
      have H := Option.some.inj H
      subst H
      exact zs_return zd_67_34 (by decide +kernel)
    · rw [if_neg c5] at H
      rw [zp_if_eq_f (x := r4.1) (t := 34) zd_67_19 rfl c5]
      rw [zs_aload_n (ls := [some (.ref 17), some (.int x1), some (.int x2)]) zd_67_22 rfl]
      rw [zs_iload_n (ls := [some (.ref 17), some (.int x1), some (.int x2)]) zd_67_23 rfl]
      rw [zs_aload_n (ls := [some (.ref 17), some (.int x1), some (.int x2)]) zd_67_24 rfl]
      rw [zs_getR (n := 119) (K := zx_pk (zK L) 119) (ρ := zR) (c := 7) (k := 3) (q := 17) (p := 29) zd_67_25 rfl rfl rfl (by decide) rfl]
      rw [zp_getI (n := 119) (K := zx_pk (zK L) 119) (σ := r4.2.1) (c := 10) (k := 7) (q := 29) (v := (r4.2.1 29 7)) zd_67_28 rfl rfl rfl (by decide) rfl]
      obtain ⟨r6, hr6, H⟩ := Option.bind_eq_some_iff.mp H
      rw [zp_callVv (st := [.int (r4.2.1 29 7), .int x2, .ref 17]) (as := [.ref 17, .int x2, .int (r4.2.1 29 7)]) (rest := []) (e := 2) zd_67_31 rfl (by decide +kernel) (by decide) rfl rfl (Nat.le_of_ble_eq_true rfl) (zx_rcb_ok rfl (show 17 < 119 by decide)) (Nat.le_of_ble_eq_true rfl) rfl (by decide) (zt_Reader_openBlock hr6)]
      have H := Option.some.inj H
      subst H
      exact zs_return zd_67_34 (by decide +kernel)
set_option maxRecDepth 20000 in
theorem zt_Reader_readLock {a b L N : Nat} {σ : zS} {τ : zT} {r : zS × zT} (H : zf_Reader_readLock N σ τ = some r) : zx_go 3 64 0 [some (.ref 17), none] [] ((119, a, b), zx_pk (zK L) 119, σ, τ, zR) = some (none, ((119, a, b), zx_pk (zK L) 119, r.1, r.2, zR)) := by
  unfold zf_Reader_readLock at H
  rw [zs_aload_n (ls := [some (.ref 17), none]) zd_64_0 rfl]
  obtain ⟨r1, hr1, H⟩ := Option.bind_eq_some_iff.mp H
  rw [zp_callVi (x := r1.1) (st := [.ref 17]) (as := [.ref 17]) (rest := []) (e := 2) zd_64_1 rfl (by decide +kernel) (by decide) rfl rfl (Nat.le_of_ble_eq_true rfl) (zx_rcb_ok rfl (show 17 < 119 by decide)) (Nat.le_of_ble_eq_true rfl) rfl (by decide) (zt_Reader_hasRoomForStep hr1)]
  by_cases c2 : r1.1 = 0
  · rw [if_pos c2] at H
    rw [zp_if_eq_t (x := r1.1) (t := 39) zd_64_4 rfl c2]
    have H := Option.some.inj H
    subst H
    exact zs_return zd_64_39 (by decide +kernel)
  · rw [if_neg c2] at H
    rw [zp_if_eq_f (x := r1.1) (t := 39) zd_64_4 rfl c2]
    rw [zs_aload_n (ls := [some (.ref 17), none]) zd_64_7 rfl]
    rw [zs_getR (n := 119) (K := zx_pk (zK L) 119) (ρ := zR) (c := 7) (k := 1) (q := 17) (p := 25) zd_64_8 rfl rfl rfl (by decide) rfl]
    obtain ⟨r3, hr3, H⟩ := Option.bind_eq_some_iff.mp H
    rw [zp_callVv (st := [.ref 25]) (as := [.ref 25]) (rest := []) (e := 0) zd_64_11 rfl (by decide +kernel) (by decide) rfl rfl (Nat.le_of_ble_eq_true rfl) (zx_rcb_ok rfl (show 25 < 119 by decide)) (Nat.le_of_ble_eq_true rfl) rfl (by decide) (zt_Tokens_advance hr3)]
    rw [zs_aload_n (ls := [some (.ref 17), none]) zd_64_14 rfl]
    obtain ⟨r4, hr4, H⟩ := Option.bind_eq_some_iff.mp H
    rw [zp_callVi (x := r4.1) (st := [.ref 17]) (as := [.ref 17]) (rest := []) (e := 2) zd_64_15 rfl (by decide +kernel) (by decide) rfl rfl (Nat.le_of_ble_eq_true rfl) (zx_rcb_ok rfl (show 17 < 119 by decide)) (Nat.le_of_ble_eq_true rfl) rfl (by decide) (zt_Reader_takeLockName hr4)]
    rw [zs_istore_n (x := r4.1) (ls' := [some (.ref 17), some (.int r4.1)]) zd_64_18 (Nat.le_of_ble_eq_true rfl) rfl]
    rw [zs_iload_n (ls := [some (.ref 17), some (.int r4.1)]) zd_64_19 rfl]
    rw [zs_iconst (z := (-1)) zd_64_20 (by decide)]
    by_cases c5 : r4.1 = (-1)
    · rw [if_pos c5] at H
      rw [zp_icmp_eq_t (x := r4.1) (y := (-1)) (t := 39) zd_64_21 rfl c5]
      have H := Option.some.inj H
      subst H
      exact zs_return zd_64_39 (by decide +kernel)
    · rw [if_neg c5] at H
      rw [zp_icmp_eq_f (x := r4.1) (y := (-1)) (t := 39) zd_64_21 rfl c5]
      rw [zs_aload_n (ls := [some (.ref 17), some (.int r4.1)]) zd_64_24 rfl]
      rw [zs_getR (n := 119) (K := zx_pk (zK L) 119) (ρ := zR) (c := 7) (k := 3) (q := 17) (p := 29) zd_64_25 rfl rfl rfl (by decide) rfl]
      rw [zs_iconst (z := 3) zd_64_28 (by decide)]
      rw [zs_iload_n (ls := [some (.ref 17), some (.int r4.1)]) zd_64_29 rfl]
      obtain ⟨r6, hr6, H⟩ := Option.bind_eq_some_iff.mp H
      rw [zp_callVv (st := [.int r4.1, .int 3, .ref 29]) (as := [.ref 29, .int 3, .int r4.1]) (rest := []) (e := 1) zd_64_30 rfl (by decide +kernel) (by decide) rfl rfl (Nat.le_of_ble_eq_true rfl) (zx_rcb_ok rfl (show 29 < 119 by decide)) (Nat.le_of_ble_eq_true rfl) rfl (by decide) (zt_Weaver_emit hr6)]
      rw [zs_aload_n (ls := [some (.ref 17), some (.int r4.1)]) zd_64_33 rfl]
      rw [zs_iconst (z := 1) zd_64_34 (by decide)]
      rw [zs_iload_n (ls := [some (.ref 17), some (.int r4.1)]) zd_64_35 rfl]
      obtain ⟨r7, hr7, H⟩ := Option.bind_eq_some_iff.mp H
      rw [zp_callVv (st := [.int r4.1, .int 1, .ref 17]) (as := [.ref 17, .int 1, .int r4.1]) (rest := []) (e := 2) zd_64_36 rfl (by decide +kernel) (by decide) rfl rfl (Nat.le_of_ble_eq_true rfl) (zx_rcb_ok rfl (show 17 < 119 by decide)) (Nat.le_of_ble_eq_true rfl) rfl (by decide) (zt_Reader_openBlock hr7)]
      have H := Option.some.inj H
      subst H
      exact zs_return zd_64_39 (by decide +kernel)
set_option maxRecDepth 20000 in
theorem zt_Weaver_innermost {a b L : Nat} {σ : zS} {τ : zT} {r : Int32} (H : zf_Weaver_innermost σ = some r) : zx_go 0 37 0 [some (.ref 29)] [] ((119, a, b), zx_pk (zK L) 119, σ, τ, zR) = some (some (.int r), ((119, a, b), zx_pk (zK L) 119, σ, τ, zR)) := by
  unfold zf_Weaver_innermost at H
  rw [zs_aload_n (ls := [some (.ref 29)]) zd_37_0 rfl]
  rw [zp_getI (n := 119) (K := zx_pk (zK L) 119) (σ := σ) (c := 10) (k := 6) (q := 29) (v := (σ 29 6)) zd_37_1 rfl rfl rfl (by decide) rfl]
  by_cases c1 : (σ 29 6) ≤ 0
  · rw [if_pos c1] at H
    rw [zp_if_le_t (x := (σ 29 6)) (t := 30) zd_37_4 rfl c1]
    rw [zs_iconst (z := (-1)) zd_37_30 (by decide)]
    have H := Option.some.inj H
    subst H
    exact zs_ireturn zd_37_31 (by decide +kernel)
  · rw [if_neg c1] at H
    rw [zp_if_le_f (x := (σ 29 6)) (t := 30) zd_37_4 rfl c1]
    rw [zs_aload_n (ls := [some (.ref 29)]) zd_37_7 rfl]
    rw [zp_getI (n := 119) (K := zx_pk (zK L) 119) (σ := σ) (c := 10) (k := 6) (q := 29) (v := (σ 29 6)) zd_37_8 rfl rfl rfl (by decide) rfl]
    rw [zs_bipush (z := 8) zd_37_11 (by decide)]
    by_cases c2 : 8 < (σ 29 6)
    · rw [if_pos c2] at H
      rw [zp_icmp_gt_t (x := (σ 29 6)) (y := 8) (t := 30) zd_37_13 rfl c2]
      rw [zs_iconst (z := (-1)) zd_37_30 (by decide)]
      have H := Option.some.inj H
      subst H
      exact zs_ireturn zd_37_31 (by decide +kernel)
    · rw [if_neg c2] at H
      rw [zp_icmp_gt_f (x := (σ 29 6)) (y := 8) (t := 30) zd_37_13 rfl c2]
      rw [zs_aload_n (ls := [some (.ref 29)]) zd_37_16 rfl]
      rw [zs_getR (n := 119) (K := zx_pk (zK L) 119) (ρ := zR) (c := 10) (k := 1) (q := 29) (p := 30) zd_37_17 rfl rfl rfl (by decide) rfl]
      rw [zs_aload_n (ls := [some (.ref 29)]) zd_37_20 rfl]
      rw [zp_getI (n := 119) (K := zx_pk (zK L) 119) (σ := σ) (c := 10) (k := 6) (q := 29) (v := (σ 29 6)) zd_37_21 rfl rfl rfl (by decide) rfl]
      rw [zs_iconst (z := 1) zd_37_24 (by decide)]
      rw [zp_isub (x := (σ 29 6)) (y := 1) (z := ((σ 29 6) - 1)) zd_37_25 rfl]
      by_cases c3 : 0 ≤ ((σ 29 6) - 1) ∧ ((σ 29 6) - 1) < 8
      · rw [if_pos c3] at H
        rw [zp_iaload (n := 119) (K := zx_pk (zK L) 119) (σ := σ) (q := 30) (m := 8) (i := ((σ 29 6) - 1)) (k := ((σ 29 6) - 1).toNatClampNeg) (v := (σ 30 ((σ 29 6) - 1).toNatClampNeg)) zd_37_26 rfl (by decide) (zJ_in c3 rfl) rfl rfl]
        rw [zs_goto (t := 31) zd_37_27 rfl]
        have H := Option.some.inj H
        subst H
        exact zs_ireturn zd_37_31 rfl
      · rw [if_neg c3] at H
        cases H
set_option maxRecDepth 20000 in
theorem zt_Weaver_finishThread_67 {a b L N : Nat} {k19 : zS → Int32 → Int32 → Option (zS)} (hk19 : ∀ {σ : zS} {τ : zT} {v1 : Int32} {v2 : Int32} {o3 : Option Value} {r : zS}, k19 σ v1 v2 = some r → zx_go 1 45 19 [some (.ref 29), some (.int v1), some (.int v2), o3] [] ((119, a, b), zx_pk (zK L) 119, σ, τ, zR) = some (none, ((119, a, b), zx_pk (zK L) 119, r, τ, zR))) {σ : zS} {τ : zT} {v1 : Int32} {v2 : Int32} {o3 : Option Value} {r : zS} (H : zb_Weaver_finishThread_67 k19 N σ v1 v2 = some r) : zx_go 1 45 67 [some (.ref 29), some (.int v1), some (.int v2), o3] [] ((119, a, b), zx_pk (zK L) 119, σ, τ, zR) = some (none, ((119, a, b), zx_pk (zK L) 119, r, τ, zR)) := by
  unfold zb_Weaver_finishThread_67 at H
  rw [zs_iinc (ls := [some (.ref 29), some (.int v1), some (.int v2), o3]) (x := v2) (z := (v2 + 1)) (ls' := [some (.ref 29), some (.int v1), some (.int (v2 + 1)), o3]) zd_45_67 rfl rfl rfl]
  rw [zs_goto (t := 19) zd_45_70 rfl]
  exact hk19 H
set_option maxRecDepth 20000 in
theorem zt_Weaver_finishThread_19 {a b L N : Nat} : ∀ {n : Nat} {σ : zS} {τ : zT} {v1 : Int32} {v2 : Int32} {o3 : Option Value} {r : zS}, zb_Weaver_finishThread_19 N n σ v1 v2 = some r → zx_go 1 45 19 [some (.ref 29), some (.int v1), some (.int v2), o3] [] ((119, a, b), zx_pk (zK L) 119, σ, τ, zR) = some (none, ((119, a, b), zx_pk (zK L) 119, r, τ, zR)) := by
  intro n
  induction n with
  | zero =>
    intro _ _ _ _ _ _ H
    cases H
  | succ n ih =>
    intro σ τ v1 v2 o3 r H
    rw [zb_Weaver_finishThread_19] at H
    rw [zs_iload_n (ls := [some (.ref 29), some (.int v1), some (.int v2), o3]) zd_45_19 rfl]
    rw [zs_iload_n (ls := [some (.ref 29), some (.int v1), some (.int v2), o3]) zd_45_20 rfl]
    by_cases c3 : v1 ≤ v2
    · rw [if_pos c3] at H
      rw [zp_icmp_ge_t (x := v2) (y := v1) (t := 73) zd_45_21 rfl c3]
      have H := Option.some.inj H
      subst H
      exact zs_return zd_45_73 (by decide +kernel)
    · rw [if_neg c3] at H
      rw [zp_icmp_ge_f (x := v2) (y := v1) (t := 73) zd_45_21 rfl c3]
      rw [zs_iload_n (ls := [some (.ref 29), some (.int v1), some (.int v2), o3]) zd_45_24 rfl]
      rw [zs_bipush (z := 24) zd_45_25 (by decide)]
      by_cases c4 : 24 ≤ v2
      · rw [if_pos c4] at H
        rw [zp_icmp_ge_t (x := v2) (y := 24) (t := 73) zd_45_27 rfl c4]
        have H := Option.some.inj H
        subst H
        exact zs_return zd_45_73 (by decide +kernel)
      · rw [if_neg c4] at H
        rw [zp_icmp_ge_f (x := v2) (y := 24) (t := 73) zd_45_27 rfl c4]
        rw [zs_aload_n (ls := [some (.ref 29), some (.int v1), some (.int v2), o3]) zd_45_30 rfl]
        rw [zs_getR (n := 119) (K := zx_pk (zK L) 119) (ρ := zR) (c := 10) (k := 0) (q := 29) (p := 4) zd_45_31 rfl rfl rfl (by decide) rfl]
        rw [zs_aload_n (ls := [some (.ref 29), some (.int v1), some (.int v2), o3]) zd_45_34 rfl]
        rw [zp_getI (n := 119) (K := zx_pk (zK L) 119) (σ := σ) (c := 10) (k := 8) (q := 29) (v := (σ 29 8)) zd_45_35 rfl rfl rfl (by decide) rfl]
        rw [zs_iload_n (ls := [some (.ref 29), some (.int v1), some (.int v2), o3]) zd_45_38 rfl]
        obtain ⟨r5, hr5, H⟩ := Option.bind_eq_some_iff.mp H
        rw [zp_callVi (x := r5) (st := [.int v2, .int (σ 29 8), .ref 4]) (as := [.ref 4, .int (σ 29 8), .int v2]) (rest := []) (e := 0) zd_45_39 rfl (by decide +kernel) (by decide) rfl rfl (Nat.le_of_ble_eq_true rfl) (zx_rcb_ok rfl (show 4 < 119 by decide)) (Nat.le_of_ble_eq_true rfl) rfl (by decide) (zt_Program_slotOf hr5)]
        rw [zs_istore_n (x := r5) (ls' := [some (.ref 29), some (.int v1), some (.int v2), some (.int r5)]) zd_45_42 (Nat.le_of_ble_eq_true rfl) rfl]
        rw [zs_aload_n (ls := [some (.ref 29), some (.int v1), some (.int v2), some (.int r5)]) zd_45_43 rfl]
        rw [zs_getR (n := 119) (K := zx_pk (zK L) 119) (ρ := zR) (c := 10) (k := 0) (q := 29) (p := 4) zd_45_44 rfl rfl rfl (by decide) rfl]
        rw [zs_getR (n := 119) (K := zx_pk (zK L) 119) (ρ := zR) (c := 6) (k := 9) (q := 4) (p := 7) zd_45_47 rfl rfl rfl (by decide) rfl]
        rw [zs_iload_n (ls := [some (.ref 29), some (.int v1), some (.int v2), some (.int r5)]) zd_45_50 rfl]
        by_cases c6 : 0 ≤ r5 ∧ r5 < 97
        · rw [if_pos c6] at H
          rw [zp_iaload (n := 119) (K := zx_pk (zK L) 119) (σ := σ) (q := 7) (m := 97) (i := r5) (k := r5.toNatClampNeg) (v := (σ 7 r5.toNatClampNeg)) zd_45_51 rfl (by decide) (zJ_in c6 rfl) rfl rfl]
          rw [zs_bipush (z := 13) zd_45_52 (by decide)]
          by_cases c7 : ¬ (σ 7 r5.toNatClampNeg) = 13
          · rw [if_pos c7] at H
            rw [zp_icmp_ne_t (x := (σ 7 r5.toNatClampNeg)) (y := 13) (t := 67) zd_45_54 rfl c7]
            exact zt_Weaver_finishThread_67 (hk19 := ih) H
          · rw [if_neg c7] at H
            rw [zp_icmp_ne_f (x := (σ 7 r5.toNatClampNeg)) (y := 13) (t := 67) zd_45_54 rfl c7]
            rw [zs_aload_n (ls := [some (.ref 29), some (.int v1), some (.int v2), some (.int r5)]) zd_45_57 rfl]
            rw [zs_getR (n := 119) (K := zx_pk (zK L) 119) (ρ := zR) (c := 10) (k := 0) (q := 29) (p := 4) zd_45_58 rfl rfl rfl (by decide) rfl]
            rw [zs_getR (n := 119) (K := zx_pk (zK L) 119) (ρ := zR) (c := 6) (k := 11) (q := 4) (p := 9) zd_45_61 rfl rfl rfl (by decide) rfl]
            rw [zs_iload_n (ls := [some (.ref 29), some (.int v1), some (.int v2), some (.int r5)]) zd_45_64 rfl]
            rw [zs_iload_n (ls := [some (.ref 29), some (.int v1), some (.int v2), some (.int r5)]) zd_45_65 rfl]
            by_cases c8 : 0 ≤ r5 ∧ r5 < 97
            · rw [if_pos c8] at H
              rw [zp_iastore (n := 119) (K := zx_pk (zK L) 119) (q := 9) (m := 97) (i := r5) (k := r5.toNatClampNeg) (x := v1) (z := v1) zd_45_66 rfl ⟨by decide, by decide⟩ (zJ_in c8 rfl) rfl rfl]
              exact zt_Weaver_finishThread_67 (hk19 := ih) H
            · rw [if_neg c8] at H
              cases H
        · rw [if_neg c6] at H
          cases H
set_option maxRecDepth 20000 in
theorem zt_Weaver_finishThread {a b L N : Nat} {σ : zS} {τ : zT} {r : zS} (H : zf_Weaver_finishThread N σ = some r) : zx_go 1 45 0 [some (.ref 29), none, none, none] [] ((119, a, b), zx_pk (zK L) 119, σ, τ, zR) = some (none, ((119, a, b), zx_pk (zK L) 119, r, τ, zR)) := by
  unfold zf_Weaver_finishThread at H
  rw [zs_aload_n (ls := [some (.ref 29), none, none, none]) zd_45_0 rfl]
  rw [zs_getR (n := 119) (K := zx_pk (zK L) 119) (ρ := zR) (c := 10) (k := 0) (q := 29) (p := 4) zd_45_1 rfl rfl rfl (by decide) rfl]
  rw [zs_aload_n (ls := [some (.ref 29), none, none, none]) zd_45_4 rfl]
  rw [zp_getI (n := 119) (K := zx_pk (zK L) 119) (σ := σ) (c := 10) (k := 8) (q := 29) (v := (σ 29 8)) zd_45_5 rfl rfl rfl (by decide) rfl]
  obtain ⟨r1, hr1, H⟩ := Option.bind_eq_some_iff.mp H
  rw [zp_callVi (x := r1) (st := [.int (σ 29 8), .ref 4]) (as := [.ref 4, .int (σ 29 8)]) (rest := []) (e := 0) zd_45_8 rfl (by decide +kernel) (by decide) rfl rfl (Nat.le_of_ble_eq_true rfl) (zx_rcb_ok rfl (show 4 < 119 by decide)) (Nat.le_of_ble_eq_true rfl) rfl (by decide) (zt_Program_lengthOf hr1)]
  rw [zs_istore_n (x := r1) (ls' := [some (.ref 29), some (.int r1), none, none]) zd_45_11 (Nat.le_of_ble_eq_true rfl) rfl]
  rw [zs_aload_n (ls := [some (.ref 29), some (.int r1), none, none]) zd_45_12 rfl]
  rw [zs_iload_n (ls := [some (.ref 29), some (.int r1), none, none]) zd_45_13 rfl]
  obtain ⟨r2, hr2, H⟩ := Option.bind_eq_some_iff.mp H
  rw [zp_callVv (st := [.int r1, .ref 29]) (as := [.ref 29, .int r1]) (rest := []) (e := 0) zd_45_14 rfl (by decide +kernel) (by decide) rfl rfl (Nat.le_of_ble_eq_true rfl) (zx_rcb_ok rfl (show 29 < 119 by decide)) (Nat.le_of_ble_eq_true rfl) rfl (by decide) (zt_Weaver_closeOpen hr2)]
  rw [zs_iconst (z := 0) zd_45_17 (by decide)]
  rw [zs_istore_n (x := 0) (ls' := [some (.ref 29), some (.int r1), some (.int 0), none]) zd_45_18 (Nat.le_of_ble_eq_true rfl) rfl]
  exact zt_Weaver_finishThread_19  H
set_option maxRecDepth 20000 in
theorem zt_Weaver_leave_166 {a b L N : Nat} {σ : zS} {τ : zT} {v1 : Int32} {o2 : Option Value} {r : zS} (H : zb_Weaver_leave_166 N σ v1 = some r) : zx_go 2 44 166 [some (.ref 29), some (.int v1), o2] [] ((119, a, b), zx_pk (zK L) 119, σ, τ, zR) = some (none, ((119, a, b), zx_pk (zK L) 119, r, τ, zR)) := by
  unfold zb_Weaver_leave_166 at H
  rw [zs_aload_n (ls := [some (.ref 29), some (.int v1), o2]) zd_44_166 rfl]
  rw [zs_iload_n (ls := [some (.ref 29), some (.int v1), o2]) zd_44_167 rfl]
  rw [zs_putI (n := 119) (K := zx_pk (zK L) 119) (c := 10) (k := 6) (q := 29) (x := v1) zd_44_168 rfl rfl (by decide +kernel) rfl (by decide)]
  have H := Option.some.inj H
  subst H
  exact zs_return zd_44_171 (by decide +kernel)
set_option maxRecDepth 20000 in
theorem zt_Weaver_leave {a b L N : Nat} {σ : zS} {τ : zT} {r : zS} (H : zf_Weaver_leave N σ = some r) : zx_go 2 44 0 [some (.ref 29), none, none] [] ((119, a, b), zx_pk (zK L) 119, σ, τ, zR) = some (none, ((119, a, b), zx_pk (zK L) 119, r, τ, zR)) := by
  unfold zf_Weaver_leave at H
  rw [zs_aload_n (ls := [some (.ref 29), none, none]) zd_44_0 rfl]
  rw [zp_getI (n := 119) (K := zx_pk (zK L) 119) (σ := σ) (c := 10) (k := 6) (q := 29) (v := (σ 29 6)) zd_44_1 rfl rfl rfl (by decide) rfl]
  by_cases c1 : (σ 29 6) ≤ 0
  · rw [if_pos c1] at H
    rw [zp_if_le_t (x := (σ 29 6)) (t := 16) zd_44_4 rfl c1]
    have H := Option.some.inj H
    subst H
    exact zs_return zd_44_16 (by decide +kernel)
  · rw [if_neg c1] at H
    rw [zp_if_le_f (x := (σ 29 6)) (t := 16) zd_44_4 rfl c1]
    rw [zs_aload_n (ls := [some (.ref 29), none, none]) zd_44_7 rfl]
    rw [zp_getI (n := 119) (K := zx_pk (zK L) 119) (σ := σ) (c := 10) (k := 6) (q := 29) (v := (σ 29 6)) zd_44_8 rfl rfl rfl (by decide) rfl]
    rw [zs_bipush (z := 8) zd_44_11 (by decide)]
    by_cases c2 : (σ 29 6) ≤ 8
    · rw [if_pos c2] at H
      rw [zp_icmp_le_t (x := (σ 29 6)) (y := 8) (t := 17) zd_44_13 rfl c2]
      rw [zs_aload_n (ls := [some (.ref 29), none, none]) zd_44_17 rfl]
      rw [zp_getI (n := 119) (K := zx_pk (zK L) 119) (σ := σ) (c := 10) (k := 6) (q := 29) (v := (σ 29 6)) zd_44_18 rfl rfl rfl (by decide) rfl]
      rw [zs_iconst (z := 1) zd_44_21 (by decide)]
      rw [zp_isub (x := (σ 29 6)) (y := 1) (z := ((σ 29 6) - 1)) zd_44_22 rfl]
      rw [zs_istore_n (x := ((σ 29 6) - 1)) (ls' := [some (.ref 29), some (.int ((σ 29 6) - 1)), none]) zd_44_23 (Nat.le_of_ble_eq_true rfl) rfl]
      rw [zs_aload_n (ls := [some (.ref 29), some (.int ((σ 29 6) - 1)), none]) zd_44_24 rfl]
      rw [zs_getR (n := 119) (K := zx_pk (zK L) 119) (ρ := zR) (c := 10) (k := 2) (q := 29) (p := 31) zd_44_25 rfl rfl rfl (by decide) rfl]
      rw [zs_iload_n (ls := [some (.ref 29), some (.int ((σ 29 6) - 1)), none]) zd_44_28 rfl]
      by_cases c3 : 0 ≤ ((σ 29 6) - 1) ∧ ((σ 29 6) - 1) < 8
      · rw [if_pos c3] at H
        rw [zp_iaload (n := 119) (K := zx_pk (zK L) 119) (σ := σ) (q := 31) (m := 8) (i := ((σ 29 6) - 1)) (k := ((σ 29 6) - 1).toNatClampNeg) (v := (σ 31 ((σ 29 6) - 1).toNatClampNeg)) zd_44_29 rfl (by decide) (zJ_in c3 rfl) rfl rfl]
        rw [zs_istore_n (x := (σ 31 ((σ 29 6) - 1).toNatClampNeg)) (ls' := [some (.ref 29), some (.int ((σ 29 6) - 1)), some (.int (σ 31 ((σ 29 6) - 1).toNatClampNeg))]) zd_44_30 (Nat.le_of_ble_eq_true rfl) rfl]
        rw [zs_aload_n (ls := [some (.ref 29), some (.int ((σ 29 6) - 1)), some (.int (σ 31 ((σ 29 6) - 1).toNatClampNeg))]) zd_44_31 rfl]
        rw [zs_getR (n := 119) (K := zx_pk (zK L) 119) (ρ := zR) (c := 10) (k := 1) (q := 29) (p := 30) zd_44_32 rfl rfl rfl (by decide) rfl]
        rw [zs_iload_n (ls := [some (.ref 29), some (.int ((σ 29 6) - 1)), some (.int (σ 31 ((σ 29 6) - 1).toNatClampNeg))]) zd_44_35 rfl]
        by_cases c4 : 0 ≤ ((σ 29 6) - 1) ∧ ((σ 29 6) - 1) < 8
        · rw [if_pos c4] at H
          rw [zp_iaload (n := 119) (K := zx_pk (zK L) 119) (σ := σ) (q := 30) (m := 8) (i := ((σ 29 6) - 1)) (k := ((σ 29 6) - 1).toNatClampNeg) (v := (σ 30 ((σ 29 6) - 1).toNatClampNeg)) zd_44_36 rfl (by decide) (zJ_in c4 rfl) rfl rfl]
          by_cases c5 : (σ 30 ((σ 29 6) - 1).toNatClampNeg) = 0
          · rw [if_pos c5] at H
            rw [zs_table (x := (σ 30 ((σ 29 6) - 1).toNatClampNeg)) (off := 35) (t := 72) zd_44_37 (by rw [c5]; decide) rfl]
            rw [zs_aload_n (ls := [some (.ref 29), some (.int ((σ 29 6) - 1)), some (.int (σ 31 ((σ 29 6) - 1).toNatClampNeg))]) zd_44_72 rfl]
            obtain ⟨r15, hr15, H⟩ := Option.bind_eq_some_iff.mp H
            rw [zp_callVv (st := [.ref 29]) (as := [.ref 29]) (rest := []) (e := 1) zd_44_73 rfl (by decide +kernel) (by decide) rfl rfl (Nat.le_of_ble_eq_true rfl) (zx_rcb_ok rfl (show 29 < 119 by decide)) (Nat.le_of_ble_eq_true rfl) rfl (by decide) (zt_Weaver_finishThread hr15)]
            rw [zs_goto (t := 166) zd_44_76 rfl]
            exact zt_Weaver_leave_166  H
          · rw [if_neg c5] at H
            by_cases c6 : (σ 30 ((σ 29 6) - 1).toNatClampNeg) = 1
            · rw [if_pos c6] at H
              rw [zs_table (x := (σ 30 ((σ 29 6) - 1).toNatClampNeg)) (off := 42) (t := 79) zd_44_37 (by rw [c6]; decide) rfl]
              rw [zs_aload_n (ls := [some (.ref 29), some (.int ((σ 29 6) - 1)), some (.int (σ 31 ((σ 29 6) - 1).toNatClampNeg))]) zd_44_79 rfl]
              rw [zs_iconst (z := 4) zd_44_80 (by decide)]
              rw [zs_iload_n (ls := [some (.ref 29), some (.int ((σ 29 6) - 1)), some (.int (σ 31 ((σ 29 6) - 1).toNatClampNeg))]) zd_44_81 rfl]
              obtain ⟨r13, hr13, H⟩ := Option.bind_eq_some_iff.mp H
              rw [zp_callVv (st := [.int (σ 31 ((σ 29 6) - 1).toNatClampNeg), .int 4, .ref 29]) (as := [.ref 29, .int 4, .int (σ 31 ((σ 29 6) - 1).toNatClampNeg)]) (rest := []) (e := 1) zd_44_82 rfl (by decide +kernel) (by decide) rfl rfl (Nat.le_of_ble_eq_true rfl) (zx_rcb_ok rfl (show 29 < 119 by decide)) (Nat.le_of_ble_eq_true rfl) rfl (by decide) (zt_Weaver_emit hr13)]
              rw [zs_aload_n (ls := [some (.ref 29), some (.int ((σ 29 6) - 1)), some (.int (σ 31 ((σ 29 6) - 1).toNatClampNeg))]) zd_44_85 rfl]
              rw [zs_aload_n (ls := [some (.ref 29), some (.int ((σ 29 6) - 1)), some (.int (σ 31 ((σ 29 6) - 1).toNatClampNeg))]) zd_44_86 rfl]
              rw [zs_getR (n := 119) (K := zx_pk (zK L) 119) (ρ := zR) (c := 10) (k := 5) (q := 29) (p := 34) zd_44_87 rfl rfl rfl (by decide) rfl]
              rw [zs_iload_n (ls := [some (.ref 29), some (.int ((σ 29 6) - 1)), some (.int (σ 31 ((σ 29 6) - 1).toNatClampNeg))]) zd_44_90 rfl]
              by_cases c14 : 0 ≤ ((σ 29 6) - 1) ∧ ((σ 29 6) - 1) < 8
              · rw [if_pos c14] at H
                rw [zp_iaload (n := 119) (K := zx_pk (zK L) 119) (σ := r13) (q := 34) (m := 8) (i := ((σ 29 6) - 1)) (k := ((σ 29 6) - 1).toNatClampNeg) (v := (r13 34 ((σ 29 6) - 1).toNatClampNeg)) zd_44_91 rfl (by decide) (zJ_in c14 rfl) rfl rfl]
                rw [zs_putI (n := 119) (K := zx_pk (zK L) 119) (c := 10) (k := 11) (q := 29) (x := (r13 34 ((σ 29 6) - 1).toNatClampNeg)) zd_44_92 rfl rfl (by decide +kernel) rfl (by decide)]
                rw [zs_goto (t := 166) zd_44_95 rfl]
                exact zt_Weaver_leave_166  H
              · rw [if_neg c14] at H
                cases H
            · rw [if_neg c6] at H
              by_cases c7 : (σ 30 ((σ 29 6) - 1).toNatClampNeg) = 2
              · rw [if_pos c7] at H
                rw [zs_table (x := (σ 30 ((σ 29 6) - 1).toNatClampNeg)) (off := 61) (t := 98) zd_44_37 (by rw [c7]; decide) rfl]
                rw [zs_aload_n (ls := [some (.ref 29), some (.int ((σ 29 6) - 1)), some (.int (σ 31 ((σ 29 6) - 1).toNatClampNeg))]) zd_44_98 rfl]
                rw [zs_iconst (z := (-1)) zd_44_99 (by decide)]
                rw [zs_putI (n := 119) (K := zx_pk (zK L) 119) (c := 10) (k := 12) (q := 29) (x := (-1)) zd_44_100 rfl rfl (by decide +kernel) rfl (by decide)]
                rw [zs_goto (t := 166) zd_44_103 rfl]
                exact zt_Weaver_leave_166  H
              · rw [if_neg c7] at H
                by_cases c8 : (σ 30 ((σ 29 6) - 1).toNatClampNeg) = 3
                · rw [if_pos c8] at H
                  rw [zs_table (x := (σ 30 ((σ 29 6) - 1).toNatClampNeg)) (off := 69) (t := 106) zd_44_37 (by rw [c8]; decide) rfl]
                  rw [zs_aload_n (ls := [some (.ref 29), some (.int ((σ 29 6) - 1)), some (.int (σ 31 ((σ 29 6) - 1).toNatClampNeg))]) zd_44_106 rfl]
                  rw [zs_dup (a := .ref 29) zd_44_107 rfl]
                  rw [zp_getI (n := 119) (K := zx_pk (zK L) 119) (σ := σ) (c := 10) (k := 10) (q := 29) (v := (σ 29 10)) zd_44_108 rfl rfl rfl (by decide) rfl]
                  rw [zs_iconst (z := 1) zd_44_111 (by decide)]
                  rw [zs_iload_n (ls := [some (.ref 29), some (.int ((σ 29 6) - 1)), some (.int (σ 31 ((σ 29 6) - 1).toNatClampNeg))]) zd_44_112 rfl]
                  rw [zp_ishl (x := 1) (y := (σ 31 ((σ 29 6) - 1).toNatClampNeg)) (z := (zJ_shl 1 (σ 31 ((σ 29 6) - 1).toNatClampNeg))) zd_44_113 rfl]
                  rw [zp_ior (x := (σ 29 10)) (y := (zJ_shl 1 (σ 31 ((σ 29 6) - 1).toNatClampNeg))) (z := ((σ 29 10) ||| (zJ_shl 1 (σ 31 ((σ 29 6) - 1).toNatClampNeg)))) zd_44_114 rfl]
                  rw [zs_putI (n := 119) (K := zx_pk (zK L) 119) (c := 10) (k := 10) (q := 29) (x := ((σ 29 10) ||| (zJ_shl 1 (σ 31 ((σ 29 6) - 1).toNatClampNeg)))) zd_44_115 rfl rfl (by decide +kernel) rfl (by decide)]
                  rw [zs_goto (t := 166) zd_44_118 rfl]
                  exact zt_Weaver_leave_166  H
                · rw [if_neg c8] at H
                  by_cases c9 : (σ 30 ((σ 29 6) - 1).toNatClampNeg) = 4
                  · rw [if_pos c9] at H
                    rw [zs_table (x := (σ 30 ((σ 29 6) - 1).toNatClampNeg)) (off := 84) (t := 121) zd_44_37 (by rw [c9]; decide) rfl]
                    rw [zs_aload_n (ls := [some (.ref 29), some (.int ((σ 29 6) - 1)), some (.int (σ 31 ((σ 29 6) - 1).toNatClampNeg))]) zd_44_121 rfl]
                    rw [zs_dup (a := .ref 29) zd_44_122 rfl]
                    rw [zp_getI (n := 119) (K := zx_pk (zK L) 119) (σ := σ) (c := 10) (k := 9) (q := 29) (v := (σ 29 9)) zd_44_123 rfl rfl rfl (by decide) rfl]
                    rw [zs_aload_n (ls := [some (.ref 29), some (.int ((σ 29 6) - 1)), some (.int (σ 31 ((σ 29 6) - 1).toNatClampNeg))]) zd_44_126 rfl]
                    rw [zs_getR (n := 119) (K := zx_pk (zK L) 119) (ρ := zR) (c := 10) (k := 3) (q := 29) (p := 32) zd_44_127 rfl rfl rfl (by decide) rfl]
                    rw [zs_iload_n (ls := [some (.ref 29), some (.int ((σ 29 6) - 1)), some (.int (σ 31 ((σ 29 6) - 1).toNatClampNeg))]) zd_44_130 rfl]
                    by_cases c11 : 0 ≤ ((σ 29 6) - 1) ∧ ((σ 29 6) - 1) < 8
                    · rw [if_pos c11] at H
                      rw [zp_iaload (n := 119) (K := zx_pk (zK L) 119) (σ := σ) (q := 32) (m := 8) (i := ((σ 29 6) - 1)) (k := ((σ 29 6) - 1).toNatClampNeg) (v := (σ 32 ((σ 29 6) - 1).toNatClampNeg)) zd_44_131 rfl (by decide) (zJ_in c11 rfl) rfl rfl]
                      rw [zp_ior (x := (σ 29 9)) (y := (σ 32 ((σ 29 6) - 1).toNatClampNeg)) (z := ((σ 29 9) ||| (σ 32 ((σ 29 6) - 1).toNatClampNeg))) zd_44_132 rfl]
                      rw [zs_putI (n := 119) (K := zx_pk (zK L) 119) (c := 10) (k := 9) (q := 29) (x := ((σ 29 9) ||| (σ 32 ((σ 29 6) - 1).toNatClampNeg))) zd_44_133 rfl rfl (by decide +kernel) rfl (by decide)]
                      rw [zs_aload_n (ls := [some (.ref 29), some (.int ((σ 29 6) - 1)), some (.int (σ 31 ((σ 29 6) - 1).toNatClampNeg))]) zd_44_136 rfl]
                      rw [zs_dup (a := .ref 29) zd_44_137 rfl]
                      rw [zp_getI (n := 119) (K := zx_pk (zK L) 119) (σ := (zx_up σ 29 9 ((σ 29 9) ||| (σ 32 ((σ 29 6) - 1).toNatClampNeg)))) (c := 10) (k := 10) (q := 29) (v := (σ 29 10)) zd_44_138 rfl rfl rfl (by decide) (show ((zx_up σ 29 9 ((σ 29 9) ||| (σ 32 ((σ 29 6) - 1).toNatClampNeg))) : zS) 29 10 = (σ 29 10) from ((zx_up_nj (by decide)).trans rfl))]
                      rw [zs_aload_n (ls := [some (.ref 29), some (.int ((σ 29 6) - 1)), some (.int (σ 31 ((σ 29 6) - 1).toNatClampNeg))]) zd_44_141 rfl]
                      rw [zs_getR (n := 119) (K := zx_pk (zK L) 119) (ρ := zR) (c := 10) (k := 4) (q := 29) (p := 33) zd_44_142 rfl rfl rfl (by decide) rfl]
                      rw [zs_iload_n (ls := [some (.ref 29), some (.int ((σ 29 6) - 1)), some (.int (σ 31 ((σ 29 6) - 1).toNatClampNeg))]) zd_44_145 rfl]
                      by_cases c12 : 0 ≤ ((σ 29 6) - 1) ∧ ((σ 29 6) - 1) < 8
                      · rw [if_pos c12] at H
                        rw [zp_iaload (n := 119) (K := zx_pk (zK L) 119) (σ := (zx_up σ 29 9 ((σ 29 9) ||| (σ 32 ((σ 29 6) - 1).toNatClampNeg)))) (q := 33) (m := 8) (i := ((σ 29 6) - 1)) (k := ((σ 29 6) - 1).toNatClampNeg) (v := (σ 33 ((σ 29 6) - 1).toNatClampNeg)) zd_44_146 rfl (by decide) (zJ_in c12 rfl) rfl (show ((zx_up σ 29 9 ((σ 29 9) ||| (σ 32 ((σ 29 6) - 1).toNatClampNeg))) : zS) 33 ((σ 29 6) - 1).toNatClampNeg = (σ 33 ((σ 29 6) - 1).toNatClampNeg) from ((zx_up_ne (by decide)).trans rfl))]
                        rw [zp_ior (x := (σ 29 10)) (y := (σ 33 ((σ 29 6) - 1).toNatClampNeg)) (z := ((σ 29 10) ||| (σ 33 ((σ 29 6) - 1).toNatClampNeg))) zd_44_147 rfl]
                        rw [zs_putI (n := 119) (K := zx_pk (zK L) 119) (c := 10) (k := 10) (q := 29) (x := ((σ 29 10) ||| (σ 33 ((σ 29 6) - 1).toNatClampNeg))) zd_44_148 rfl rfl (by decide +kernel) rfl (by decide)]
                        rw [zs_goto (t := 166) zd_44_151 rfl]
                        exact zt_Weaver_leave_166  H
                      · rw [if_neg c12] at H
                        cases H
                    · rw [if_neg c11] at H
                      cases H
                  · rw [if_neg c9] at H
                    rw [zs_table (x := (σ 30 ((σ 29 6) - 1).toNatClampNeg)) (off := 117) (t := 154) zd_44_37 (if_pos (by have e : ∀ z : Int32, ¬ (σ 30 ((σ 29 6) - 1).toNatClampNeg) = z → ¬ ((σ 30 ((σ 29 6) - 1).toNatClampNeg) : Int32).toInt = z.toInt := fun z h q => h (Int32.toInt_inj.mp q); have q0 := e 0 c5; have q1 := e 1 c6; have q2 := e 2 c7; have q3 := e 3 c8; have q4 := e 4 c9; simp only [show (0 : Int32).toInt = 0 from rfl, show (1 : Int32).toInt = 1 from rfl, show (2 : Int32).toInt = 2 from rfl, show (3 : Int32).toInt = 3 from rfl, show (4 : Int32).toInt = 4 from rfl] at q0 q1 q2 q3 q4; omega)) rfl]
                    rw [zs_aload_n (ls := [some (.ref 29), some (.int ((σ 29 6) - 1)), some (.int (σ 31 ((σ 29 6) - 1).toNatClampNeg))]) zd_44_154 rfl]
                    rw [zs_iload_n (ls := [some (.ref 29), some (.int ((σ 29 6) - 1)), some (.int (σ 31 ((σ 29 6) - 1).toNatClampNeg))]) zd_44_155 rfl]
                    obtain ⟨r10, hr10, H⟩ := Option.bind_eq_some_iff.mp H
                    rw [zp_callVv (st := [.int (σ 31 ((σ 29 6) - 1).toNatClampNeg), .ref 29]) (as := [.ref 29, .int (σ 31 ((σ 29 6) - 1).toNatClampNeg)]) (rest := []) (e := 0) zd_44_156 rfl (by decide +kernel) (by decide) rfl rfl (Nat.le_of_ble_eq_true rfl) (zx_rcb_ok rfl (show 29 < 119 by decide)) (Nat.le_of_ble_eq_true rfl) rfl (by decide) (zt_Weaver_closeOpen hr10)]
                    rw [zs_aload_n (ls := [some (.ref 29), some (.int ((σ 29 6) - 1)), some (.int (σ 31 ((σ 29 6) - 1).toNatClampNeg))]) zd_44_159 rfl]
                    rw [zs_iconst (z := 1) zd_44_160 (by decide)]
                    rw [zs_iload_n (ls := [some (.ref 29), some (.int ((σ 29 6) - 1)), some (.int (σ 31 ((σ 29 6) - 1).toNatClampNeg))]) zd_44_161 rfl]
                    rw [zp_ishl (x := 1) (y := (σ 31 ((σ 29 6) - 1).toNatClampNeg)) (z := (zJ_shl 1 (σ 31 ((σ 29 6) - 1).toNatClampNeg))) zd_44_162 rfl]
                    rw [zs_putI (n := 119) (K := zx_pk (zK L) 119) (c := 10) (k := 10) (q := 29) (x := (zJ_shl 1 (σ 31 ((σ 29 6) - 1).toNatClampNeg))) zd_44_163 rfl rfl (by decide +kernel) rfl (by decide)]
                    exact zt_Weaver_leave_166  H
        · rw [if_neg c4] at H
          cases H
      · rw [if_neg c3] at H
        cases H
    · rw [if_neg c2] at H
      rw [zp_icmp_le_f (x := (σ 29 6)) (y := 8) (t := 17) zd_44_13 rfl c2]
      have H := Option.some.inj H
      subst H
      exact zs_return zd_44_16 (by decide +kernel)
set_option maxRecDepth 20000 in
theorem zt_Weaver_turnToElse {a b L : Nat} {σ : zS} {τ : zT} {r : zS} (H : zf_Weaver_turnToElse σ = some r) : zx_go 0 42 0 [some (.ref 29), none] [] ((119, a, b), zx_pk (zK L) 119, σ, τ, zR) = some (none, ((119, a, b), zx_pk (zK L) 119, r, τ, zR)) := by
  unfold zf_Weaver_turnToElse at H
  rw [zs_aload_n (ls := [some (.ref 29), none]) zd_42_0 rfl]
  rw [zp_getI (n := 119) (K := zx_pk (zK L) 119) (σ := σ) (c := 10) (k := 6) (q := 29) (v := (σ 29 6)) zd_42_1 rfl rfl rfl (by decide) rfl]
  by_cases c1 : (σ 29 6) ≤ 0
  · rw [if_pos c1] at H
    rw [zp_if_le_t (x := (σ 29 6)) (t := 67) zd_42_4 rfl c1]
    have H := Option.some.inj H
    subst H
    exact zs_return zd_42_67 (by decide +kernel)
  · rw [if_neg c1] at H
    rw [zp_if_le_f (x := (σ 29 6)) (t := 67) zd_42_4 rfl c1]
    rw [zs_aload_n (ls := [some (.ref 29), none]) zd_42_7 rfl]
    rw [zp_getI (n := 119) (K := zx_pk (zK L) 119) (σ := σ) (c := 10) (k := 6) (q := 29) (v := (σ 29 6)) zd_42_8 rfl rfl rfl (by decide) rfl]
    rw [zs_bipush (z := 8) zd_42_11 (by decide)]
    by_cases c2 : 8 < (σ 29 6)
    · rw [if_pos c2] at H
      rw [zp_icmp_gt_t (x := (σ 29 6)) (y := 8) (t := 67) zd_42_13 rfl c2]
      have H := Option.some.inj H
      subst H
      exact zs_return zd_42_67 (by decide +kernel)
    · rw [if_neg c2] at H
      rw [zp_icmp_gt_f (x := (σ 29 6)) (y := 8) (t := 67) zd_42_13 rfl c2]
      rw [zs_aload_n (ls := [some (.ref 29), none]) zd_42_16 rfl]
      rw [zp_getI (n := 119) (K := zx_pk (zK L) 119) (σ := σ) (c := 10) (k := 6) (q := 29) (v := (σ 29 6)) zd_42_17 rfl rfl rfl (by decide) rfl]
      rw [zs_iconst (z := 1) zd_42_20 (by decide)]
      rw [zp_isub (x := (σ 29 6)) (y := 1) (z := ((σ 29 6) - 1)) zd_42_21 rfl]
      rw [zs_istore_n (x := ((σ 29 6) - 1)) (ls' := [some (.ref 29), some (.int ((σ 29 6) - 1))]) zd_42_22 (Nat.le_of_ble_eq_true rfl) rfl]
      rw [zs_aload_n (ls := [some (.ref 29), some (.int ((σ 29 6) - 1))]) zd_42_23 rfl]
      rw [zs_getR (n := 119) (K := zx_pk (zK L) 119) (ρ := zR) (c := 10) (k := 1) (q := 29) (p := 30) zd_42_24 rfl rfl rfl (by decide) rfl]
      rw [zs_iload_n (ls := [some (.ref 29), some (.int ((σ 29 6) - 1))]) zd_42_27 rfl]
      rw [zs_iconst (z := 4) zd_42_28 (by decide)]
      by_cases c3 : 0 ≤ ((σ 29 6) - 1) ∧ ((σ 29 6) - 1) < 8
      · rw [if_pos c3] at H
        rw [zp_iastore (n := 119) (K := zx_pk (zK L) 119) (q := 30) (m := 8) (i := ((σ 29 6) - 1)) (k := ((σ 29 6) - 1).toNatClampNeg) (x := 4) (z := 4) zd_42_29 rfl ⟨by decide, by decide⟩ (zJ_in c3 rfl) rfl rfl]
        rw [zs_aload_n (ls := [some (.ref 29), some (.int ((σ 29 6) - 1))]) zd_42_30 rfl]
        rw [zs_getR (n := 119) (K := zx_pk (zK L) 119) (ρ := zR) (c := 10) (k := 3) (q := 29) (p := 32) zd_42_31 rfl rfl rfl (by decide) rfl]
        rw [zs_iload_n (ls := [some (.ref 29), some (.int ((σ 29 6) - 1))]) zd_42_34 rfl]
        rw [zs_aload_n (ls := [some (.ref 29), some (.int ((σ 29 6) - 1))]) zd_42_35 rfl]
        rw [zp_getI (n := 119) (K := zx_pk (zK L) 119) (σ := (zx_up σ 30 ((σ 29 6) - 1).toNatClampNeg 4)) (c := 10) (k := 9) (q := 29) (v := (σ 29 9)) zd_42_36 rfl rfl rfl (by decide) (show ((zx_up σ 30 ((σ 29 6) - 1).toNatClampNeg 4) : zS) 29 9 = (σ 29 9) from ((zx_up_ne (by decide)).trans rfl))]
        by_cases c4 : 0 ≤ ((σ 29 6) - 1) ∧ ((σ 29 6) - 1) < 8
        · rw [if_pos c4] at H
          rw [zp_iastore (n := 119) (K := zx_pk (zK L) 119) (q := 32) (m := 8) (i := ((σ 29 6) - 1)) (k := ((σ 29 6) - 1).toNatClampNeg) (x := (σ 29 9)) (z := (σ 29 9)) zd_42_39 rfl ⟨by decide, by decide⟩ (zJ_in c4 rfl) rfl rfl]
          rw [zs_aload_n (ls := [some (.ref 29), some (.int ((σ 29 6) - 1))]) zd_42_40 rfl]
          rw [zs_getR (n := 119) (K := zx_pk (zK L) 119) (ρ := zR) (c := 10) (k := 4) (q := 29) (p := 33) zd_42_41 rfl rfl rfl (by decide) rfl]
          rw [zs_iload_n (ls := [some (.ref 29), some (.int ((σ 29 6) - 1))]) zd_42_44 rfl]
          rw [zs_aload_n (ls := [some (.ref 29), some (.int ((σ 29 6) - 1))]) zd_42_45 rfl]
          rw [zp_getI (n := 119) (K := zx_pk (zK L) 119) (σ := (zx_up (zx_up σ 30 ((σ 29 6) - 1).toNatClampNeg 4) 32 ((σ 29 6) - 1).toNatClampNeg (σ 29 9))) (c := 10) (k := 10) (q := 29) (v := (σ 29 10)) zd_42_46 rfl rfl rfl (by decide) (show ((zx_up (zx_up σ 30 ((σ 29 6) - 1).toNatClampNeg 4) 32 ((σ 29 6) - 1).toNatClampNeg (σ 29 9)) : zS) 29 10 = (σ 29 10) from ((zx_up_ne (by decide)).trans ((zx_up_ne (by decide)).trans rfl)))]
          by_cases c5 : 0 ≤ ((σ 29 6) - 1) ∧ ((σ 29 6) - 1) < 8
          · rw [if_pos c5] at H
            rw [zp_iastore (n := 119) (K := zx_pk (zK L) 119) (q := 33) (m := 8) (i := ((σ 29 6) - 1)) (k := ((σ 29 6) - 1).toNatClampNeg) (x := (σ 29 10)) (z := (σ 29 10)) zd_42_49 rfl ⟨by decide, by decide⟩ (zJ_in c5 rfl) rfl rfl]
            rw [zs_aload_n (ls := [some (.ref 29), some (.int ((σ 29 6) - 1))]) zd_42_50 rfl]
            rw [zs_iconst (z := 0) zd_42_51 (by decide)]
            rw [zs_putI (n := 119) (K := zx_pk (zK L) 119) (c := 10) (k := 9) (q := 29) (x := 0) zd_42_52 rfl rfl (by decide +kernel) rfl (by decide)]
            rw [zs_aload_n (ls := [some (.ref 29), some (.int ((σ 29 6) - 1))]) zd_42_55 rfl]
            rw [zs_iconst (z := 1) zd_42_56 (by decide)]
            rw [zs_aload_n (ls := [some (.ref 29), some (.int ((σ 29 6) - 1))]) zd_42_57 rfl]
            rw [zs_getR (n := 119) (K := zx_pk (zK L) 119) (ρ := zR) (c := 10) (k := 2) (q := 29) (p := 31) zd_42_58 rfl rfl rfl (by decide) rfl]
            rw [zs_iload_n (ls := [some (.ref 29), some (.int ((σ 29 6) - 1))]) zd_42_61 rfl]
            by_cases c6 : 0 ≤ ((σ 29 6) - 1) ∧ ((σ 29 6) - 1) < 8
            · rw [if_pos c6] at H
              rw [zp_iaload (n := 119) (K := zx_pk (zK L) 119) (σ := (zx_up (zx_up (zx_up (zx_up σ 30 ((σ 29 6) - 1).toNatClampNeg 4) 32 ((σ 29 6) - 1).toNatClampNeg (σ 29 9)) 33 ((σ 29 6) - 1).toNatClampNeg (σ 29 10)) 29 9 0)) (q := 31) (m := 8) (i := ((σ 29 6) - 1)) (k := ((σ 29 6) - 1).toNatClampNeg) (v := (σ 31 ((σ 29 6) - 1).toNatClampNeg)) zd_42_62 rfl (by decide) (zJ_in c6 rfl) rfl (show ((zx_up (zx_up (zx_up (zx_up σ 30 ((σ 29 6) - 1).toNatClampNeg 4) 32 ((σ 29 6) - 1).toNatClampNeg (σ 29 9)) 33 ((σ 29 6) - 1).toNatClampNeg (σ 29 10)) 29 9 0) : zS) 31 ((σ 29 6) - 1).toNatClampNeg = (σ 31 ((σ 29 6) - 1).toNatClampNeg) from ((zx_up_ne (by decide)).trans ((zx_up_ne (by decide)).trans ((zx_up_ne (by decide)).trans ((zx_up_ne (by decide)).trans rfl)))))]
              rw [zp_ishl (x := 1) (y := (σ 31 ((σ 29 6) - 1).toNatClampNeg)) (z := (zJ_shl 1 (σ 31 ((σ 29 6) - 1).toNatClampNeg))) zd_42_63 rfl]
              rw [zs_putI (n := 119) (K := zx_pk (zK L) 119) (c := 10) (k := 10) (q := 29) (x := (zJ_shl 1 (σ 31 ((σ 29 6) - 1).toNatClampNeg))) zd_42_64 rfl rfl (by decide +kernel) rfl (by decide)]
              have H := Option.some.inj H
              subst H
              exact zs_return zd_42_67 (by decide +kernel)
            · rw [if_neg c6] at H
              cases H
          · rw [if_neg c5] at H
            cases H
        · rw [if_neg c4] at H
          cases H
      · rw [if_neg c3] at H
        cases H
set_option maxRecDepth 20000 in
theorem zt_Reader_closeBlock_70 {a b L N : Nat} {σ : zS} {τ : zT} {o1 : Option Value} {r : zS × zT} (H : zb_Reader_closeBlock_70 N σ τ = some r) : zx_go 3 36 70 [some (.ref 17), o1] [] ((119, a, b), zx_pk (zK L) 119, σ, τ, zR) = some (none, ((119, a, b), zx_pk (zK L) 119, r.1, r.2, zR)) := by
  unfold zb_Reader_closeBlock_70 at H
  rw [zs_aload_n (ls := [some (.ref 17), o1]) zd_36_70 rfl]
  rw [zs_getR (n := 119) (K := zx_pk (zK L) 119) (ρ := zR) (c := 7) (k := 3) (q := 17) (p := 29) zd_36_71 rfl rfl rfl (by decide) rfl]
  obtain ⟨r5, hr5, H⟩ := Option.bind_eq_some_iff.mp H
  rw [zp_callVv (st := [.ref 29]) (as := [.ref 29]) (rest := []) (e := 2) zd_36_74 rfl (by decide +kernel) (by decide) rfl rfl (Nat.le_of_ble_eq_true rfl) (zx_rcb_ok rfl (show 29 < 119 by decide)) (Nat.le_of_ble_eq_true rfl) rfl (by decide) (zt_Weaver_leave hr5)]
  have H := Option.some.inj H
  subst H
  exact zs_return zd_36_77 (by decide +kernel)
set_option maxRecDepth 20000 in
theorem zt_Reader_closeBlock_21 {a b L N : Nat} {σ : zS} {τ : zT} {v1 : Int32} {r : zS × zT} (H : zb_Reader_closeBlock_21 N σ τ v1 = some r) : zx_go 3 36 21 [some (.ref 17), some (.int v1)] [] ((119, a, b), zx_pk (zK L) 119, σ, τ, zR) = some (none, ((119, a, b), zx_pk (zK L) 119, r.1, r.2, zR)) := by
  unfold zb_Reader_closeBlock_21 at H
  rw [zs_aload_n (ls := [some (.ref 17), some (.int v1)]) zd_36_21 rfl]
  rw [zs_getR (n := 119) (K := zx_pk (zK L) 119) (ρ := zR) (c := 7) (k := 1) (q := 17) (p := 25) zd_36_22 rfl rfl rfl (by decide) rfl]
  obtain ⟨r3, hr3, H⟩ := Option.bind_eq_some_iff.mp H
  rw [zp_callVv (st := [.ref 25]) (as := [.ref 25]) (rest := []) (e := 0) zd_36_25 rfl (by decide +kernel) (by decide) rfl rfl (Nat.le_of_ble_eq_true rfl) (zx_rcb_ok rfl (show 25 < 119 by decide)) (Nat.le_of_ble_eq_true rfl) rfl (by decide) (zt_Tokens_advance hr3)]
  rw [zs_iload_n (ls := [some (.ref 17), some (.int v1)]) zd_36_28 rfl]
  rw [zs_iconst (z := 3) zd_36_29 (by decide)]
  by_cases c4 : ¬ v1 = 3
  · rw [if_pos c4] at H
    rw [zp_icmp_ne_t (x := v1) (y := 3) (t := 70) zd_36_30 rfl c4]
    exact zt_Reader_closeBlock_70  H
  · rw [if_neg c4] at H
    rw [zp_icmp_ne_f (x := v1) (y := 3) (t := 70) zd_36_30 rfl c4]
    rw [zs_aload_n (ls := [some (.ref 17), some (.int v1)]) zd_36_33 rfl]
    rw [zs_getR (n := 119) (K := zx_pk (zK L) 119) (ρ := zR) (c := 7) (k := 1) (q := 17) (p := 25) zd_36_34 rfl rfl rfl (by decide) rfl]
    rw [zp_getI (n := 119) (K := zx_pk (zK L) 119) (σ := r3.1) (c := 9) (k := 7) (q := 25) (v := (r3.1 25 7)) zd_36_37 rfl rfl rfl (by decide) rfl]
    rw [zs_sipush (z := 305) zd_36_40 (by decide)]
    by_cases c6 : ¬ (r3.1 25 7) = 305
    · rw [if_pos c6] at H
      rw [zp_icmp_ne_t (x := (r3.1 25 7)) (y := 305) (t := 70) zd_36_43 rfl c6]
      exact zt_Reader_closeBlock_70  H
    · rw [if_neg c6] at H
      rw [zp_icmp_ne_f (x := (r3.1 25 7)) (y := 305) (t := 70) zd_36_43 rfl c6]
      rw [zs_aload_n (ls := [some (.ref 17), some (.int v1)]) zd_36_46 rfl]
      rw [zs_getR (n := 119) (K := zx_pk (zK L) 119) (ρ := zR) (c := 7) (k := 1) (q := 17) (p := 25) zd_36_47 rfl rfl rfl (by decide) rfl]
      obtain ⟨r7, hr7, H⟩ := Option.bind_eq_some_iff.mp H
      rw [zp_callVv (st := [.ref 25]) (as := [.ref 25]) (rest := []) (e := 0) zd_36_50 rfl (by decide +kernel) (by decide) rfl rfl (Nat.le_of_ble_eq_true rfl) (zx_rcb_ok rfl (show 25 < 119 by decide)) (Nat.le_of_ble_eq_true rfl) rfl (by decide) (zt_Tokens_advance hr7)]
      rw [zs_aload_n (ls := [some (.ref 17), some (.int v1)]) zd_36_53 rfl]
      rw [zs_getR (n := 119) (K := zx_pk (zK L) 119) (ρ := zR) (c := 7) (k := 3) (q := 17) (p := 29) zd_36_54 rfl rfl rfl (by decide) rfl]
      obtain ⟨r8, hr8, H⟩ := Option.bind_eq_some_iff.mp H
      rw [zp_callVv (st := [.ref 29]) (as := [.ref 29]) (rest := []) (e := 0) zd_36_57 rfl (by decide +kernel) (by decide) rfl rfl (Nat.le_of_ble_eq_true rfl) (zx_rcb_ok rfl (show 29 < 119 by decide)) (Nat.le_of_ble_eq_true rfl) rfl (by decide) (zt_Weaver_turnToElse hr8)]
      rw [zs_aload_n (ls := [some (.ref 17), some (.int v1)]) zd_36_60 rfl]
      rw [zs_bipush (z := 123) zd_36_61 (by decide)]
      obtain ⟨r9, hr9, H⟩ := Option.bind_eq_some_iff.mp H
      rw [zp_callVi (x := r9.1) (st := [.int 123, .ref 17]) (as := [.ref 17, .int 123]) (rest := []) (e := 1) zd_36_63 rfl (by decide +kernel) (by decide) rfl rfl (Nat.le_of_ble_eq_true rfl) (zx_rcb_ok rfl (show 17 < 119 by decide)) (Nat.le_of_ble_eq_true rfl) rfl (by decide) (zt_Reader_expect hr9)]
      rw [zs_pop (a := .int r9.1) zd_36_66 rfl]
      rw [zs_goto (t := 77) zd_36_67 rfl]
      have H := Option.some.inj H
      subst H
      exact zs_return zd_36_77 (by decide +kernel)
set_option maxRecDepth 20000 in
theorem zt_Reader_closeBlock {a b L N : Nat} {σ : zS} {τ : zT} {r : zS × zT} (H : zf_Reader_closeBlock N σ τ = some r) : zx_go 3 36 0 [some (.ref 17), none] [] ((119, a, b), zx_pk (zK L) 119, σ, τ, zR) = some (none, ((119, a, b), zx_pk (zK L) 119, r.1, r.2, zR)) := by
  unfold zf_Reader_closeBlock at H
  rw [zs_aload_n (ls := [some (.ref 17), none]) zd_36_0 rfl]
  rw [zs_getR (n := 119) (K := zx_pk (zK L) 119) (ρ := zR) (c := 7) (k := 3) (q := 17) (p := 29) zd_36_1 rfl rfl rfl (by decide) rfl]
  obtain ⟨r1, hr1, H⟩ := Option.bind_eq_some_iff.mp H
  rw [zp_callVi (x := r1) (st := [.ref 29]) (as := [.ref 29]) (rest := []) (e := 0) zd_36_4 rfl (by decide +kernel) (by decide) rfl rfl (Nat.le_of_ble_eq_true rfl) (zx_rcb_ok rfl (show 29 < 119 by decide)) (Nat.le_of_ble_eq_true rfl) rfl (by decide) (zt_Weaver_innermost hr1)]
  rw [zs_istore_n (x := r1) (ls' := [some (.ref 17), some (.int r1)]) zd_36_7 (Nat.le_of_ble_eq_true rfl) rfl]
  rw [zs_iload_n (ls := [some (.ref 17), some (.int r1)]) zd_36_8 rfl]
  rw [zs_iconst (z := 1) zd_36_9 (by decide)]
  by_cases c2 : ¬ r1 = 1
  · rw [if_pos c2] at H
    rw [zp_icmp_ne_t (x := r1) (y := 1) (t := 21) zd_36_10 rfl c2]
    exact zt_Reader_closeBlock_21  H
  · rw [if_neg c2] at H
    rw [zp_icmp_ne_f (x := r1) (y := 1) (t := 21) zd_36_10 rfl c2]
    rw [zs_aload_n (ls := [some (.ref 17), some (.int r1)]) zd_36_13 rfl]
    obtain ⟨r10, hr10, H⟩ := Option.bind_eq_some_iff.mp H
    rw [zp_callVi (x := r10.1) (st := [.ref 17]) (as := [.ref 17]) (rest := []) (e := 2) zd_36_14 rfl (by decide +kernel) (by decide) rfl rfl (Nat.le_of_ble_eq_true rfl) (zx_rcb_ok rfl (show 17 < 119 by decide)) (Nat.le_of_ble_eq_true rfl) rfl (by decide) (zt_Reader_hasRoomForStep hr10)]
    by_cases c11 : ¬ r10.1 = 0
    · rw [if_pos c11] at H
      rw [zp_if_ne_t (x := r10.1) (t := 21) zd_36_17 rfl c11]
      exact zt_Reader_closeBlock_21  H
    · rw [if_neg c11] at H
      rw [zp_if_ne_f (x := r10.1) (t := 21) zd_36_17 rfl c11]
      have H := Option.some.inj H
      subst H
      exact zs_return zd_36_20 (by decide +kernel)
set_option maxRecDepth 20000 in
theorem zt_Names_makeLocal {a b L N : Nat} {σ : zS} {τ : zT} {x1 : Int64} {r : Int32 × zS × zT} (H : zf_Names_makeLocal N σ τ x1 = some r) : zx_go 1 53 0 [some (.ref 18), some (.long x1), none, none] [] ((119, a, b), zx_pk (zK L) 119, σ, τ, zR) = some (some (.int r.1), ((119, a, b), zx_pk (zK L) 119, r.2.1, r.2.2, zR)) := by
  unfold zf_Names_makeLocal at H
  rw [zs_aload_n (ls := [some (.ref 18), some (.long x1), none, none]) zd_53_0 rfl]
  rw [zs_lload_n (ls := [some (.ref 18), some (.long x1), none, none]) zd_53_1 rfl]
  obtain ⟨r1, hr1, H⟩ := Option.bind_eq_some_iff.mp H
  rw [zp_callVi (x := r1) (st := [.long x1, .ref 18]) (as := [.ref 18, .long x1]) (rest := []) (e := 0) zd_53_2 rfl (by decide +kernel) (by decide) rfl rfl (Nat.le_of_ble_eq_true rfl) (zx_rcb_ok rfl (show 18 < 119 by decide)) (Nat.le_of_ble_eq_true rfl) rfl (by decide) (zt_Names_localOf hr1)]
  rw [zs_istore_n (x := r1) (ls' := [some (.ref 18), some (.long x1), none, some (.int r1)]) zd_53_5 (Nat.le_of_ble_eq_true rfl) rfl]
  rw [zs_iload_n (ls := [some (.ref 18), some (.long x1), none, some (.int r1)]) zd_53_6 rfl]
  rw [zs_iconst (z := (-1)) zd_53_7 (by decide)]
  by_cases c2 : ¬ r1 = (-1)
  · rw [if_pos c2] at H
    rw [zp_icmp_ne_t (x := r1) (y := (-1)) (t := 26) zd_53_8 rfl c2]
    rw [zs_iload_n (ls := [some (.ref 18), some (.long x1), none, some (.int r1)]) zd_53_26 rfl]
    have H := Option.some.inj H
    subst H
    exact zs_ireturn zd_53_27 rfl
  · rw [if_neg c2] at H
    rw [zp_icmp_ne_f (x := r1) (y := (-1)) (t := 26) zd_53_8 rfl c2]
    rw [zs_aload_n (ls := [some (.ref 18), some (.long x1), none, some (.int r1)]) zd_53_11 rfl]
    rw [zp_getI (n := 119) (K := zx_pk (zK L) 119) (σ := σ) (c := 3) (k := 5) (q := 18) (v := (σ 18 5)) zd_53_12 rfl rfl rfl (by decide) rfl]
    by_cases c3 : (σ 18 5) < 0
    · rw [if_pos c3] at H
      rw [zp_if_lt_t (x := (σ 18 5)) (t := 26) zd_53_15 rfl c3]
      rw [zs_iload_n (ls := [some (.ref 18), some (.long x1), none, some (.int r1)]) zd_53_26 rfl]
      have H := Option.some.inj H
      subst H
      exact zs_ireturn zd_53_27 rfl
    · rw [if_neg c3] at H
      rw [zp_if_lt_f (x := (σ 18 5)) (t := 26) zd_53_15 rfl c3]
      rw [zs_aload_n (ls := [some (.ref 18), some (.long x1), none, some (.int r1)]) zd_53_18 rfl]
      rw [zp_getI (n := 119) (K := zx_pk (zK L) 119) (σ := σ) (c := 3) (k := 5) (q := 18) (v := (σ 18 5)) zd_53_19 rfl rfl rfl (by decide) rfl]
      rw [zs_iconst (z := 3) zd_53_22 (by decide)]
      by_cases c4 : (σ 18 5) < 3
      · rw [if_pos c4] at H
        rw [zp_icmp_lt_t (x := (σ 18 5)) (y := 3) (t := 28) zd_53_23 rfl c4]
        rw [zs_aload_n (ls := [some (.ref 18), some (.long x1), none, some (.int r1)]) zd_53_28 rfl]
        rw [zs_getR (n := 119) (K := zx_pk (zK L) 119) (ρ := zR) (c := 3) (k := 4) (q := 18) (p := 22) zd_53_29 rfl rfl rfl (by decide) rfl]
        rw [zs_aload_n (ls := [some (.ref 18), some (.long x1), none, some (.int r1)]) zd_53_32 rfl]
        rw [zp_getI (n := 119) (K := zx_pk (zK L) 119) (σ := σ) (c := 3) (k := 5) (q := 18) (v := (σ 18 5)) zd_53_33 rfl rfl rfl (by decide) rfl]
        rw [zs_lload_n (ls := [some (.ref 18), some (.long x1), none, some (.int r1)]) zd_53_36 rfl]
        by_cases c5 : 0 ≤ (σ 18 5) ∧ (σ 18 5) < 3
        · rw [if_pos c5] at H
          rw [zp_lastore (n := 119) (K := zx_pk (zK L) 119) (q := 22) (m := 3) (i := (σ 18 5)) (k := (σ 18 5).toNatClampNeg) (x := x1) (z := x1) zd_53_37 rfl ⟨by decide, by decide⟩ (zJ_in c5 rfl) rfl rfl]
          rw [zs_aload_n (ls := [some (.ref 18), some (.long x1), none, some (.int r1)]) zd_53_38 rfl]
          rw [zs_dup (a := .ref 18) zd_53_39 rfl]
          rw [zp_getI (n := 119) (K := zx_pk (zK L) 119) (σ := σ) (c := 3) (k := 5) (q := 18) (v := (σ 18 5)) zd_53_40 rfl rfl rfl (by decide) rfl]
          rw [zs_iconst (z := 1) zd_53_43 (by decide)]
          rw [zp_iadd (x := (σ 18 5)) (y := 1) (z := ((σ 18 5) + 1)) zd_53_44 rfl]
          rw [zs_putI (n := 119) (K := zx_pk (zK L) 119) (c := 3) (k := 5) (q := 18) (x := ((σ 18 5) + 1)) zd_53_45 rfl rfl (by decide +kernel) rfl (by decide)]
          rw [zs_aload_n (ls := [some (.ref 18), some (.long x1), none, some (.int r1)]) zd_53_48 rfl]
          rw [zp_getI (n := 119) (K := zx_pk (zK L) 119) (σ := (zx_up σ 18 5 ((σ 18 5) + 1))) (c := 3) (k := 5) (q := 18) (v := ((σ 18 5) + 1)) zd_53_49 rfl rfl rfl (by decide) (show ((zx_up σ 18 5 ((σ 18 5) + 1)) : zS) 18 5 = ((σ 18 5) + 1) from zx_up_at)]
          rw [zs_iconst (z := 1) zd_53_52 (by decide)]
          rw [zp_isub (x := ((σ 18 5) + 1)) (y := 1) (z := (((σ 18 5) + 1) - 1)) zd_53_53 rfl]
          have H := Option.some.inj H
          subst H
          exact zs_ireturn zd_53_54 rfl
        · rw [if_neg c5] at H
          cases H
      · rw [if_neg c4] at H
        rw [zp_icmp_lt_f (x := (σ 18 5)) (y := 3) (t := 28) zd_53_23 rfl c4]
        rw [zs_iload_n (ls := [some (.ref 18), some (.long x1), none, some (.int r1)]) zd_53_26 rfl]
        have H := Option.some.inj H
        subst H
        exact zs_ireturn zd_53_27 rfl
set_option maxRecDepth 20000 in
theorem zt_Reader_takeSetValue_121 {a b L N : Nat} {σ : zS} {τ : zT} {s0 : Int32} {o1 : Option Value} {o2 : Option Value} {o3 : Option Value} {r : Int32 × zS × zT} (H : zb_Reader_takeSetValue_121 N σ τ s0 = some r) : zx_go 2 56 121 [some (.ref 17), o1, o2, o3] [.int s0] ((119, a, b), zx_pk (zK L) 119, σ, τ, zR) = some (some (.int r.1), ((119, a, b), zx_pk (zK L) 119, r.2.1, r.2.2, zR)) := by
  unfold zb_Reader_takeSetValue_121 at H
  rw [zs_istore_n (x := s0) (ls' := [some (.ref 17), o1, (zJ_cl o2), some (.int s0)]) zd_56_121 (Nat.le_of_ble_eq_true rfl) (zJ_s1 (k := 2) (o := o2) rfl)]
  rw [zs_aload_n (ls := [some (.ref 17), o1, (zJ_cl o2), some (.int s0)]) zd_56_122 rfl]
  rw [zs_getR (n := 119) (K := zx_pk (zK L) 119) (ρ := zR) (c := 7) (k := 1) (q := 17) (p := 25) zd_56_123 rfl rfl rfl (by decide) rfl]
  obtain ⟨r7, hr7, H⟩ := Option.bind_eq_some_iff.mp H
  rw [zp_callVv (st := [.ref 25]) (as := [.ref 25]) (rest := []) (e := 0) zd_56_126 rfl (by decide +kernel) (by decide) rfl rfl (Nat.le_of_ble_eq_true rfl) (zx_rcb_ok rfl (show 25 < 119 by decide)) (Nat.le_of_ble_eq_true rfl) rfl (by decide) (zt_Tokens_advance hr7)]
  rw [zs_iload_n (ls := [some (.ref 17), o1, (zJ_cl o2), some (.int s0)]) zd_56_129 rfl]
  have H := Option.some.inj H
  subst H
  exact zs_ireturn zd_56_130 rfl
set_option maxRecDepth 20000 in
theorem zt_Reader_takeSetValue_102 {a b L N : Nat} {σ : zS} {τ : zT} {v1 : Int32} {v2 : Int32} {o3 : Option Value} {r : Int32 × zS × zT} (H : zb_Reader_takeSetValue_102 N σ τ v1 v2 = some r) : zx_go 2 56 102 [some (.ref 17), some (.int v1), some (.int v2), o3] [] ((119, a, b), zx_pk (zK L) 119, σ, τ, zR) = some (some (.int r.1), ((119, a, b), zx_pk (zK L) 119, r.2.1, r.2.2, zR)) := by
  unfold zb_Reader_takeSetValue_102 at H
  rw [zs_iload_n (ls := [some (.ref 17), some (.int v1), some (.int v2), o3]) zd_56_102 rfl]
  by_cases c6 : v1 = 0
  · rw [if_pos c6] at H
    rw [zp_if_eq_t (x := v1) (t := 113) zd_56_103 rfl c6]
    rw [zs_aload_n (ls := [some (.ref 17), some (.int v1), some (.int v2), o3]) zd_56_113 rfl]
    rw [zs_getR (n := 119) (K := zx_pk (zK L) 119) (ρ := zR) (c := 7) (k := 1) (q := 17) (p := 25) zd_56_114 rfl rfl rfl (by decide) rfl]
    rw [zp_getL (n := 119) (K := zx_pk (zK L) 119) (τ := τ) (c := 9) (k := 9) (q := 25) (v := (τ 25 9)) zd_56_117 rfl rfl rfl (by decide) rfl]
    rw [zp_l2i (x := (τ 25 9)) (z := ((τ 25 9) : Int64).toInt32) zd_56_120 rfl]
    exact zt_Reader_takeSetValue_121  H
  · rw [if_neg c6] at H
    rw [zp_if_eq_f (x := v1) (t := 113) zd_56_103 rfl c6]
    rw [zs_bipush (z := 8) zd_56_106 (by decide)]
    rw [zs_iload_n (ls := [some (.ref 17), some (.int v1), some (.int v2), o3]) zd_56_108 rfl]
    rw [zp_iadd (x := 8) (y := v2) (z := (8 + v2)) zd_56_109 rfl]
    rw [zs_goto (t := 121) zd_56_110 rfl]
    exact zt_Reader_takeSetValue_121  H
set_option maxRecDepth 20000 in
theorem zt_Reader_takeSetValue_84 {a b L N : Nat} {σ : zS} {τ : zT} {v1 : Int32} {s0 : Int32} {o2 : Option Value} {o3 : Option Value} {r : Int32 × zS × zT} (H : zb_Reader_takeSetValue_84 N σ τ v1 s0 = some r) : zx_go 2 56 84 [some (.ref 17), some (.int v1), o2, o3] [.int s0] ((119, a, b), zx_pk (zK L) 119, σ, τ, zR) = some (some (.int r.1), ((119, a, b), zx_pk (zK L) 119, r.2.1, r.2.2, zR)) := by
  unfold zb_Reader_takeSetValue_84 at H
  rw [zs_istore_n (x := s0) (ls' := [some (.ref 17), some (.int v1), some (.int s0), o3]) zd_56_84 (Nat.le_of_ble_eq_true rfl) rfl]
  rw [zs_iload_n (ls := [some (.ref 17), some (.int v1), some (.int s0), o3]) zd_56_85 rfl]
  by_cases c5 : v1 = 0
  · rw [if_pos c5] at H
    rw [zp_if_eq_t (x := v1) (t := 102) zd_56_86 rfl c5]
    exact zt_Reader_takeSetValue_102  H
  · rw [if_neg c5] at H
    rw [zp_if_eq_f (x := v1) (t := 102) zd_56_86 rfl c5]
    rw [zs_iload_n (ls := [some (.ref 17), some (.int v1), some (.int s0), o3]) zd_56_89 rfl]
    rw [zs_iconst (z := (-1)) zd_56_90 (by decide)]
    by_cases c8 : ¬ s0 = (-1)
    · rw [if_pos c8] at H
      rw [zp_icmp_ne_t (x := s0) (y := (-1)) (t := 102) zd_56_91 rfl c8]
      exact zt_Reader_takeSetValue_102  H
    · rw [if_neg c8] at H
      rw [zp_icmp_ne_f (x := s0) (y := (-1)) (t := 102) zd_56_91 rfl c8]
      rw [zs_aload_n (ls := [some (.ref 17), some (.int v1), some (.int s0), o3]) zd_56_94 rfl]
      rw [zs_iconst (z := 4) zd_56_95 (by decide)]
      obtain ⟨r9, hr9, H⟩ := Option.bind_eq_some_iff.mp H
      rw [zp_callVi (x := r9.1) (st := [.int 4, .ref 17]) (as := [.ref 17, .int 4]) (rest := []) (e := 0) zd_56_96 rfl (by decide +kernel) (by decide) rfl rfl (Nat.le_of_ble_eq_true rfl) (zx_rcb_ok rfl (show 17 < 119 by decide)) (Nat.le_of_ble_eq_true rfl) rfl (by decide) (zt_Reader_failHere hr9)]
      rw [zs_pop (a := .int r9.1) zd_56_99 rfl]
      rw [zs_iconst (z := (-1)) zd_56_100 (by decide)]
      have H := Option.some.inj H
      subst H
      exact zs_ireturn zd_56_101 (by decide +kernel)
set_option maxRecDepth 20000 in
theorem zt_Reader_takeSetValue_62 {a b L N : Nat} {σ : zS} {τ : zT} {v1 : Int32} {o2 : Option Value} {o3 : Option Value} {r : Int32 × zS × zT} (H : zb_Reader_takeSetValue_62 N σ τ v1 = some r) : zx_go 2 56 62 [some (.ref 17), some (.int v1), o2, o3] [] ((119, a, b), zx_pk (zK L) 119, σ, τ, zR) = some (some (.int r.1), ((119, a, b), zx_pk (zK L) 119, r.2.1, r.2.2, zR)) := by
  unfold zb_Reader_takeSetValue_62 at H
  rw [zs_iload_n (ls := [some (.ref 17), some (.int v1), o2, o3]) zd_56_62 rfl]
  by_cases c4 : v1 = 0
  · rw [if_pos c4] at H
    rw [zp_if_eq_t (x := v1) (t := 83) zd_56_63 rfl c4]
    rw [zs_iconst (z := (-1)) zd_56_83 (by decide)]
    exact zt_Reader_takeSetValue_84  H
  · rw [if_neg c4] at H
    rw [zp_if_eq_f (x := v1) (t := 83) zd_56_63 rfl c4]
    rw [zs_aload_n (ls := [some (.ref 17), some (.int v1), o2, o3]) zd_56_66 rfl]
    rw [zs_getR (n := 119) (K := zx_pk (zK L) 119) (ρ := zR) (c := 7) (k := 2) (q := 17) (p := 18) zd_56_67 rfl rfl rfl (by decide) rfl]
    rw [zs_aload_n (ls := [some (.ref 17), some (.int v1), o2, o3]) zd_56_70 rfl]
    rw [zs_getR (n := 119) (K := zx_pk (zK L) 119) (ρ := zR) (c := 7) (k := 1) (q := 17) (p := 25) zd_56_71 rfl rfl rfl (by decide) rfl]
    rw [zp_getL (n := 119) (K := zx_pk (zK L) 119) (τ := τ) (c := 9) (k := 9) (q := 25) (v := (τ 25 9)) zd_56_74 rfl rfl rfl (by decide) rfl]
    obtain ⟨r10, hr10, H⟩ := Option.bind_eq_some_iff.mp H
    rw [zp_callVi (x := r10.1) (st := [.long (τ 25 9), .ref 18]) (as := [.ref 18, .long (τ 25 9)]) (rest := []) (e := 1) zd_56_77 rfl (by decide +kernel) (by decide) rfl rfl (Nat.le_of_ble_eq_true rfl) (zx_rcb_ok rfl (show 18 < 119 by decide)) (Nat.le_of_ble_eq_true rfl) rfl (by decide) (zt_Names_makeLocal hr10)]
    rw [zs_goto (t := 84) zd_56_80 rfl]
    exact zt_Reader_takeSetValue_84  H
set_option maxRecDepth 20000 in
theorem zt_Reader_takeSetValue_54 {a b L N : Nat} {σ : zS} {τ : zT} {o1 : Option Value} {o2 : Option Value} {o3 : Option Value} {r : Int32 × zS × zT} (H : zb_Reader_takeSetValue_54 N σ τ = some r) : zx_go 2 56 54 [some (.ref 17), o1, o2, o3] [] ((119, a, b), zx_pk (zK L) 119, σ, τ, zR) = some (some (.int r.1), ((119, a, b), zx_pk (zK L) 119, r.2.1, r.2.2, zR)) := by
  unfold zb_Reader_takeSetValue_54 at H
  rw [zs_aload_n (ls := [some (.ref 17), o1, o2, o3]) zd_56_54 rfl]
  rw [zs_iconst (z := 2) zd_56_55 (by decide)]
  obtain ⟨r13, hr13, H⟩ := Option.bind_eq_some_iff.mp H
  rw [zp_callVi (x := r13.1) (st := [.int 2, .ref 17]) (as := [.ref 17, .int 2]) (rest := []) (e := 0) zd_56_56 rfl (by decide +kernel) (by decide) rfl rfl (Nat.le_of_ble_eq_true rfl) (zx_rcb_ok rfl (show 17 < 119 by decide)) (Nat.le_of_ble_eq_true rfl) rfl (by decide) (zt_Reader_failHere hr13)]
  rw [zs_pop (a := .int r13.1) zd_56_59 rfl]
  rw [zs_iconst (z := (-1)) zd_56_60 (by decide)]
  have H := Option.some.inj H
  subst H
  exact zs_ireturn zd_56_61 (by decide +kernel)
set_option maxRecDepth 20000 in
theorem zt_Reader_takeSetValue_32 {a b L N : Nat} {σ : zS} {τ : zT} {v1 : Int32} {o2 : Option Value} {o3 : Option Value} {r : Int32 × zS × zT} (H : zb_Reader_takeSetValue_32 N σ τ v1 = some r) : zx_go 2 56 32 [some (.ref 17), some (.int v1), o2, o3] [] ((119, a, b), zx_pk (zK L) 119, σ, τ, zR) = some (some (.int r.1), ((119, a, b), zx_pk (zK L) 119, r.2.1, r.2.2, zR)) := by
  unfold zb_Reader_takeSetValue_32 at H
  rw [zs_iload_n (ls := [some (.ref 17), some (.int v1), o2, o3]) zd_56_32 rfl]
  by_cases c3 : v1 = 0
  · rw [if_pos c3] at H
    rw [zp_if_eq_t (x := v1) (t := 62) zd_56_33 rfl c3]
    exact zt_Reader_takeSetValue_62  H
  · rw [if_neg c3] at H
    rw [zp_if_eq_f (x := v1) (t := 62) zd_56_33 rfl c3]
    rw [zs_aload_n (ls := [some (.ref 17), some (.int v1), o2, o3]) zd_56_36 rfl]
    rw [zs_getR (n := 119) (K := zx_pk (zK L) 119) (ρ := zR) (c := 7) (k := 2) (q := 17) (p := 18) zd_56_37 rfl rfl rfl (by decide) rfl]
    rw [zs_aload_n (ls := [some (.ref 17), some (.int v1), o2, o3]) zd_56_40 rfl]
    rw [zs_getR (n := 119) (K := zx_pk (zK L) 119) (ρ := zR) (c := 7) (k := 1) (q := 17) (p := 25) zd_56_41 rfl rfl rfl (by decide) rfl]
    rw [zp_getL (n := 119) (K := zx_pk (zK L) 119) (τ := τ) (c := 9) (k := 9) (q := 25) (v := (τ 25 9)) zd_56_44 rfl rfl rfl (by decide) rfl]
    obtain ⟨r11, hr11, H⟩ := Option.bind_eq_some_iff.mp H
    rw [zp_callVi (x := r11) (st := [.long (τ 25 9), .ref 18]) (as := [.ref 18, .long (τ 25 9)]) (rest := []) (e := 0) zd_56_47 rfl (by decide +kernel) (by decide) rfl rfl (Nat.le_of_ble_eq_true rfl) (zx_rcb_ok rfl (show 18 < 119 by decide)) (Nat.le_of_ble_eq_true rfl) rfl (by decide) (zt_Names_sortOf hr11)]
    rw [zs_iconst (z := (-1)) zd_56_50 (by decide)]
    by_cases c12 : r11 = (-1)
    · rw [if_pos c12] at H
      rw [zp_icmp_eq_t (x := r11) (y := (-1)) (t := 62) zd_56_51 rfl c12]
      exact zt_Reader_takeSetValue_62  H
    · rw [if_neg c12] at H
      rw [zp_icmp_eq_f (x := r11) (y := (-1)) (t := 62) zd_56_51 rfl c12]
      exact zt_Reader_takeSetValue_54  H
set_option maxRecDepth 20000 in
theorem zt_Reader_takeSetValue_16 {a b L N : Nat} {σ : zS} {τ : zT} {s0 : Int32} {o1 : Option Value} {o2 : Option Value} {o3 : Option Value} {r : Int32 × zS × zT} (H : zb_Reader_takeSetValue_16 N σ τ s0 = some r) : zx_go 2 56 16 [some (.ref 17), o1, o2, o3] [.int s0] ((119, a, b), zx_pk (zK L) 119, σ, τ, zR) = some (some (.int r.1), ((119, a, b), zx_pk (zK L) 119, r.2.1, r.2.2, zR)) := by
  unfold zb_Reader_takeSetValue_16 at H
  rw [zs_istore_n (x := s0) (ls' := [some (.ref 17), some (.int s0), o2, o3]) zd_56_16 (Nat.le_of_ble_eq_true rfl) rfl]
  rw [zs_iload_n (ls := [some (.ref 17), some (.int s0), o2, o3]) zd_56_17 rfl]
  by_cases c2 : ¬ s0 = 0
  · rw [if_pos c2] at H
    rw [zp_if_ne_t (x := s0) (t := 32) zd_56_18 rfl c2]
    exact zt_Reader_takeSetValue_32  H
  · rw [if_neg c2] at H
    rw [zp_if_ne_f (x := s0) (t := 32) zd_56_18 rfl c2]
    rw [zs_aload_n (ls := [some (.ref 17), some (.int s0), o2, o3]) zd_56_21 rfl]
    rw [zs_getR (n := 119) (K := zx_pk (zK L) 119) (ρ := zR) (c := 7) (k := 1) (q := 17) (p := 25) zd_56_22 rfl rfl rfl (by decide) rfl]
    rw [zp_getI (n := 119) (K := zx_pk (zK L) 119) (σ := σ) (c := 9) (k := 7) (q := 25) (v := (σ 25 7)) zd_56_25 rfl rfl rfl (by decide) rfl]
    rw [zs_iconst (z := 2) zd_56_28 (by decide)]
    by_cases c14 : ¬ (σ 25 7) = 2
    · rw [if_pos c14] at H
      rw [zp_icmp_ne_t (x := (σ 25 7)) (y := 2) (t := 54) zd_56_29 rfl c14]
      exact zt_Reader_takeSetValue_54  H
    · rw [if_neg c14] at H
      rw [zp_icmp_ne_f (x := (σ 25 7)) (y := 2) (t := 54) zd_56_29 rfl c14]
      exact zt_Reader_takeSetValue_32  H
set_option maxRecDepth 20000 in
theorem zt_Reader_takeSetValue {a b L N : Nat} {σ : zS} {τ : zT} {r : Int32 × zS × zT} (H : zf_Reader_takeSetValue N σ τ = some r) : zx_go 2 56 0 [some (.ref 17), none, none, none] [] ((119, a, b), zx_pk (zK L) 119, σ, τ, zR) = some (some (.int r.1), ((119, a, b), zx_pk (zK L) 119, r.2.1, r.2.2, zR)) := by
  unfold zf_Reader_takeSetValue at H
  rw [zs_aload_n (ls := [some (.ref 17), none, none, none]) zd_56_0 rfl]
  rw [zs_getR (n := 119) (K := zx_pk (zK L) 119) (ρ := zR) (c := 7) (k := 1) (q := 17) (p := 25) zd_56_1 rfl rfl rfl (by decide) rfl]
  rw [zp_getI (n := 119) (K := zx_pk (zK L) 119) (σ := σ) (c := 9) (k := 7) (q := 25) (v := (σ 25 7)) zd_56_4 rfl rfl rfl (by decide) rfl]
  rw [zs_iconst (z := 3) zd_56_7 (by decide)]
  by_cases c1 : ¬ (σ 25 7) = 3
  · rw [if_pos c1] at H
    rw [zp_icmp_ne_t (x := (σ 25 7)) (y := 3) (t := 15) zd_56_8 rfl c1]
    rw [zs_iconst (z := 0) zd_56_15 (by decide)]
    exact zt_Reader_takeSetValue_16  H
  · rw [if_neg c1] at H
    rw [zp_icmp_ne_f (x := (σ 25 7)) (y := 3) (t := 15) zd_56_8 rfl c1]
    rw [zs_iconst (z := 1) zd_56_11 (by decide)]
    rw [zs_goto (t := 16) zd_56_12 rfl]
    exact zt_Reader_takeSetValue_16  H
set_option maxRecDepth 20000 in
theorem zt_Reader_readSum_61 {a b L N : Nat} {σ : zS} {τ : zT} {v1 : Int32} {v2 : Int32} {v3 : Int32} {v4 : Int32} {r : zS × zT} (H : zb_Reader_readSum_61 N σ τ v1 v2 v3 v4 = some r) : zx_go 3 59 61 [some (.ref 17), some (.int v1), some (.int v2), some (.int v3), some (.int v4)] [] ((119, a, b), zx_pk (zK L) 119, σ, τ, zR) = some (none, ((119, a, b), zx_pk (zK L) 119, r.1, r.2, zR)) := by
  unfold zb_Reader_readSum_61 at H
  rw [zs_iload (ls := [some (.ref 17), some (.int v1), some (.int v2), some (.int v3), some (.int v4)]) zd_59_61 rfl]
  rw [zs_iconst (z := (-1)) zd_59_63 (by decide)]
  by_cases c6 : v4 = (-1)
  · rw [if_pos c6] at H
    rw [zp_icmp_eq_t (x := v4) (y := (-1)) (t := 95) zd_59_64 rfl c6]
    have H := Option.some.inj H
    subst H
    exact zs_return zd_59_95 (by decide +kernel)
  · rw [if_neg c6] at H
    rw [zp_icmp_eq_f (x := v4) (y := (-1)) (t := 95) zd_59_64 rfl c6]
    rw [zs_aload_n (ls := [some (.ref 17), some (.int v1), some (.int v2), some (.int v3), some (.int v4)]) zd_59_67 rfl]
    rw [zs_getR (n := 119) (K := zx_pk (zK L) 119) (ρ := zR) (c := 7) (k := 3) (q := 17) (p := 29) zd_59_68 rfl rfl rfl (by decide) rfl]
    rw [zs_iconst (z := 2) zd_59_71 (by decide)]
    rw [zs_iconst (z := (-1)) zd_59_72 (by decide)]
    obtain ⟨r7, hr7, H⟩ := Option.bind_eq_some_iff.mp H
    rw [zp_callVv (st := [.int (-1), .int 2, .ref 29]) (as := [.ref 29, .int 2, .int (-1)]) (rest := []) (e := 1) zd_59_73 rfl (by decide +kernel) (by decide) rfl rfl (Nat.le_of_ble_eq_true rfl) (zx_rcb_ok rfl (show 29 < 119 by decide)) (Nat.le_of_ble_eq_true rfl) rfl (by decide) (zt_Weaver_emit hr7)]
    rw [zs_aload_n (ls := [some (.ref 17), some (.int v1), some (.int v2), some (.int v3), some (.int v4)]) zd_59_76 rfl]
    rw [zs_getR (n := 119) (K := zx_pk (zK L) 119) (ρ := zR) (c := 7) (k := 3) (q := 17) (p := 29) zd_59_77 rfl rfl rfl (by decide) rfl]
    rw [zs_iload_n (ls := [some (.ref 17), some (.int v1), some (.int v2), some (.int v3), some (.int v4)]) zd_59_80 rfl]
    rw [zs_iload_n (ls := [some (.ref 17), some (.int v1), some (.int v2), some (.int v3), some (.int v4)]) zd_59_81 rfl]
    rw [zs_iload_n (ls := [some (.ref 17), some (.int v1), some (.int v2), some (.int v3), some (.int v4)]) zd_59_82 rfl]
    rw [zs_iload (ls := [some (.ref 17), some (.int v1), some (.int v2), some (.int v3), some (.int v4)]) zd_59_83 rfl]
    obtain ⟨r8, hr8, H⟩ := Option.bind_eq_some_iff.mp H
    rw [zp_callVv (st := [.int v4, .int v3, .int v2, .int v1, .ref 29]) (as := [.ref 29, .int v1, .int v2, .int v3, .int v4]) (rest := []) (e := 1) zd_59_85 rfl (by decide +kernel) (by decide) rfl rfl (Nat.le_of_ble_eq_true rfl) (zx_rcb_ok rfl (show 29 < 119 by decide)) (Nat.le_of_ble_eq_true rfl) rfl (by decide) (zt_Weaver_work hr8)]
    rw [zs_aload_n (ls := [some (.ref 17), some (.int v1), some (.int v2), some (.int v3), some (.int v4)]) zd_59_88 rfl]
    rw [zs_bipush (z := 59) zd_59_89 (by decide)]
    obtain ⟨r9, hr9, H⟩ := Option.bind_eq_some_iff.mp H
    rw [zp_callVi (x := r9.1) (st := [.int 59, .ref 17]) (as := [.ref 17, .int 59]) (rest := []) (e := 1) zd_59_91 rfl (by decide +kernel) (by decide) rfl rfl (Nat.le_of_ble_eq_true rfl) (zx_rcb_ok rfl (show 17 < 119 by decide)) (Nat.le_of_ble_eq_true rfl) rfl (by decide) (zt_Reader_expect hr9)]
    rw [zs_pop (a := .int r9.1) zd_59_94 rfl]
    have H := Option.some.inj H
    subst H
    exact zs_return zd_59_95 (by decide +kernel)
set_option maxRecDepth 20000 in
theorem zt_Reader_readSum_40 {a b L N : Nat} {σ : zS} {τ : zT} {v1 : Int32} {v2 : Int32} {o3 : Option Value} {o4 : Option Value} {r : zS × zT} (H : zb_Reader_readSum_40 N σ τ v1 v2 = some r) : zx_go 3 59 40 [some (.ref 17), some (.int v1), some (.int v2), o3, o4] [] ((119, a, b), zx_pk (zK L) 119, σ, τ, zR) = some (none, ((119, a, b), zx_pk (zK L) 119, r.1, r.2, zR)) := by
  unfold zb_Reader_readSum_40 at H
  rw [zs_aload_n (ls := [some (.ref 17), some (.int v1), some (.int v2), o3, o4]) zd_59_40 rfl]
  rw [zs_getR (n := 119) (K := zx_pk (zK L) 119) (ρ := zR) (c := 7) (k := 1) (q := 17) (p := 25) zd_59_41 rfl rfl rfl (by decide) rfl]
  rw [zp_getI (n := 119) (K := zx_pk (zK L) 119) (σ := σ) (c := 9) (k := 7) (q := 25) (v := (σ 25 7)) zd_59_44 rfl rfl rfl (by decide) rfl]
  rw [zs_istore_n (x := (σ 25 7)) (ls' := [some (.ref 17), some (.int v1), some (.int v2), some (.int (σ 25 7)), o4]) zd_59_47 (Nat.le_of_ble_eq_true rfl) rfl]
  rw [zs_aload_n (ls := [some (.ref 17), some (.int v1), some (.int v2), some (.int (σ 25 7)), o4]) zd_59_48 rfl]
  rw [zs_getR (n := 119) (K := zx_pk (zK L) 119) (ρ := zR) (c := 7) (k := 1) (q := 17) (p := 25) zd_59_49 rfl rfl rfl (by decide) rfl]
  obtain ⟨r4, hr4, H⟩ := Option.bind_eq_some_iff.mp H
  rw [zp_callVv (st := [.ref 25]) (as := [.ref 25]) (rest := []) (e := 0) zd_59_52 rfl (by decide +kernel) (by decide) rfl rfl (Nat.le_of_ble_eq_true rfl) (zx_rcb_ok rfl (show 25 < 119 by decide)) (Nat.le_of_ble_eq_true rfl) rfl (by decide) (zt_Tokens_advance hr4)]
  rw [zs_aload_n (ls := [some (.ref 17), some (.int v1), some (.int v2), some (.int (σ 25 7)), o4]) zd_59_55 rfl]
  obtain ⟨r5, hr5, H⟩ := Option.bind_eq_some_iff.mp H
  rw [zp_callVi (x := r5.1) (st := [.ref 17]) (as := [.ref 17]) (rest := []) (e := 2) zd_59_56 rfl (by decide +kernel) (by decide) rfl rfl (Nat.le_of_ble_eq_true rfl) (zx_rcb_ok rfl (show 17 < 119 by decide)) (Nat.le_of_ble_eq_true rfl) rfl (by decide) (zt_Reader_takeSetValue hr5)]
  rw [zs_istore (x := r5.1) (ls' := [some (.ref 17), some (.int v1), some (.int v2), some (.int (σ 25 7)), some (.int r5.1)]) zd_59_59 (Nat.le_of_ble_eq_true rfl) rfl]
  exact zt_Reader_readSum_61  H
set_option maxRecDepth 20000 in
theorem zt_Reader_readSum {a b L N : Nat} {σ : zS} {τ : zT} {x1 : Int32} {r : zS × zT} (H : zf_Reader_readSum N σ τ x1 = some r) : zx_go 3 59 0 [some (.ref 17), some (.int x1), none, none, none] [] ((119, a, b), zx_pk (zK L) 119, σ, τ, zR) = some (none, ((119, a, b), zx_pk (zK L) 119, r.1, r.2, zR)) := by
  unfold zf_Reader_readSum at H
  rw [zs_aload_n (ls := [some (.ref 17), some (.int x1), none, none, none]) zd_59_0 rfl]
  obtain ⟨r1, hr1, H⟩ := Option.bind_eq_some_iff.mp H
  rw [zp_callVi (x := r1.1) (st := [.ref 17]) (as := [.ref 17]) (rest := []) (e := 2) zd_59_1 rfl (by decide +kernel) (by decide) rfl rfl (Nat.le_of_ble_eq_true rfl) (zx_rcb_ok rfl (show 17 < 119 by decide)) (Nat.le_of_ble_eq_true rfl) rfl (by decide) (zt_Reader_takeSetValue hr1)]
  rw [zs_istore_n (x := r1.1) (ls' := [some (.ref 17), some (.int x1), some (.int r1.1), none, none]) zd_59_4 (Nat.le_of_ble_eq_true rfl) rfl]
  rw [zs_iload_n (ls := [some (.ref 17), some (.int x1), some (.int r1.1), none, none]) zd_59_5 rfl]
  rw [zs_iconst (z := (-1)) zd_59_6 (by decide)]
  by_cases c2 : ¬ r1.1 = (-1)
  · rw [if_pos c2] at H
    rw [zp_icmp_ne_t (x := r1.1) (y := (-1)) (t := 11) zd_59_7 rfl c2]
    rw [zs_iconst (z := (-1)) zd_59_11 (by decide)]
    rw [zs_istore_n (x := (-1)) (ls' := [some (.ref 17), some (.int x1), some (.int r1.1), some (.int (-1)), none]) zd_59_12 (Nat.le_of_ble_eq_true rfl) rfl]
    rw [zs_iconst (z := 0) zd_59_13 (by decide)]
    rw [zs_istore (x := 0) (ls' := [some (.ref 17), some (.int x1), some (.int r1.1), some (.int (-1)), some (.int 0)]) zd_59_14 (Nat.le_of_ble_eq_true rfl) rfl]
    rw [zs_aload_n (ls := [some (.ref 17), some (.int x1), some (.int r1.1), some (.int (-1)), some (.int 0)]) zd_59_16 rfl]
    rw [zs_getR (n := 119) (K := zx_pk (zK L) 119) (ρ := zR) (c := 7) (k := 1) (q := 17) (p := 25) zd_59_17 rfl rfl rfl (by decide) rfl]
    rw [zp_getI (n := 119) (K := zx_pk (zK L) 119) (σ := r1.2.1) (c := 9) (k := 7) (q := 25) (v := (r1.2.1 25 7)) zd_59_20 rfl rfl rfl (by decide) rfl]
    rw [zs_bipush (z := 43) zd_59_23 (by decide)]
    by_cases c3 : (r1.2.1 25 7) = 43
    · rw [if_pos c3] at H
      rw [zp_icmp_eq_t (x := (r1.2.1 25 7)) (y := 43) (t := 40) zd_59_25 rfl c3]
      exact zt_Reader_readSum_40  H
    · rw [if_neg c3] at H
      rw [zp_icmp_eq_f (x := (r1.2.1 25 7)) (y := 43) (t := 40) zd_59_25 rfl c3]
      rw [zs_aload_n (ls := [some (.ref 17), some (.int x1), some (.int r1.1), some (.int (-1)), some (.int 0)]) zd_59_28 rfl]
      rw [zs_getR (n := 119) (K := zx_pk (zK L) 119) (ρ := zR) (c := 7) (k := 1) (q := 17) (p := 25) zd_59_29 rfl rfl rfl (by decide) rfl]
      rw [zp_getI (n := 119) (K := zx_pk (zK L) 119) (σ := r1.2.1) (c := 9) (k := 7) (q := 25) (v := (r1.2.1 25 7)) zd_59_32 rfl rfl rfl (by decide) rfl]
      rw [zs_bipush (z := 45) zd_59_35 (by decide)]
      by_cases c10 : ¬ (r1.2.1 25 7) = 45
      · rw [if_pos c10] at H
        rw [zp_icmp_ne_t (x := (r1.2.1 25 7)) (y := 45) (t := 61) zd_59_37 rfl c10]
        exact zt_Reader_readSum_61  H
      · rw [if_neg c10] at H
        rw [zp_icmp_ne_f (x := (r1.2.1 25 7)) (y := 45) (t := 61) zd_59_37 rfl c10]
        exact zt_Reader_readSum_40  H
  · rw [if_neg c2] at H
    rw [zp_icmp_ne_f (x := r1.1) (y := (-1)) (t := 11) zd_59_7 rfl c2]
    have H := Option.some.inj H
    subst H
    exact zs_return zd_59_10 (by decide +kernel)
set_option maxRecDepth 20000 in
theorem zt_Reader_readRead {a b L N : Nat} {σ : zS} {τ : zT} {x1 : Int32} {x2 : Int32} {r : zS × zT} (H : zf_Reader_readRead N σ τ x1 x2 = some r) : zx_go 2 58 0 [some (.ref 17), some (.int x1), some (.int x2)] [] ((119, a, b), zx_pk (zK L) 119, σ, τ, zR) = some (none, ((119, a, b), zx_pk (zK L) 119, r.1, r.2, zR)) := by
  unfold zf_Reader_readRead at H
  rw [zs_aload_n (ls := [some (.ref 17), some (.int x1), some (.int x2)]) zd_58_0 rfl]
  rw [zs_getR (n := 119) (K := zx_pk (zK L) 119) (ρ := zR) (c := 7) (k := 1) (q := 17) (p := 25) zd_58_1 rfl rfl rfl (by decide) rfl]
  obtain ⟨r1, hr1, H⟩ := Option.bind_eq_some_iff.mp H
  rw [zp_callVv (st := [.ref 25]) (as := [.ref 25]) (rest := []) (e := 0) zd_58_4 rfl (by decide +kernel) (by decide) rfl rfl (Nat.le_of_ble_eq_true rfl) (zx_rcb_ok rfl (show 25 < 119 by decide)) (Nat.le_of_ble_eq_true rfl) rfl (by decide) (zt_Tokens_advance hr1)]
  rw [zs_aload_n (ls := [some (.ref 17), some (.int x1), some (.int x2)]) zd_58_7 rfl]
  rw [zs_getR (n := 119) (K := zx_pk (zK L) 119) (ρ := zR) (c := 7) (k := 3) (q := 17) (p := 29) zd_58_8 rfl rfl rfl (by decide) rfl]
  rw [zs_iconst (z := 0) zd_58_11 (by decide)]
  rw [zs_iload_n (ls := [some (.ref 17), some (.int x1), some (.int x2)]) zd_58_12 rfl]
  obtain ⟨r2, hr2, H⟩ := Option.bind_eq_some_iff.mp H
  rw [zp_callVv (st := [.int x2, .int 0, .ref 29]) (as := [.ref 29, .int 0, .int x2]) (rest := []) (e := 1) zd_58_13 rfl (by decide +kernel) (by decide) rfl rfl (Nat.le_of_ble_eq_true rfl) (zx_rcb_ok rfl (show 29 < 119 by decide)) (Nat.le_of_ble_eq_true rfl) rfl (by decide) (zt_Weaver_emit hr2)]
  rw [zs_aload_n (ls := [some (.ref 17), some (.int x1), some (.int x2)]) zd_58_16 rfl]
  rw [zs_getR (n := 119) (K := zx_pk (zK L) 119) (ρ := zR) (c := 7) (k := 3) (q := 17) (p := 29) zd_58_17 rfl rfl rfl (by decide) rfl]
  rw [zs_iload_n (ls := [some (.ref 17), some (.int x1), some (.int x2)]) zd_58_20 rfl]
  rw [zs_iconst (z := 0) zd_58_21 (by decide)]
  rw [zs_iconst (z := (-1)) zd_58_22 (by decide)]
  rw [zs_iconst (z := 0) zd_58_23 (by decide)]
  obtain ⟨r3, hr3, H⟩ := Option.bind_eq_some_iff.mp H
  rw [zp_callVv (st := [.int 0, .int (-1), .int 0, .int x1, .ref 29]) (as := [.ref 29, .int x1, .int 0, .int (-1), .int 0]) (rest := []) (e := 1) zd_58_24 rfl (by decide +kernel) (by decide) rfl rfl (Nat.le_of_ble_eq_true rfl) (zx_rcb_ok rfl (show 29 < 119 by decide)) (Nat.le_of_ble_eq_true rfl) rfl (by decide) (zt_Weaver_work hr3)]
  rw [zs_aload_n (ls := [some (.ref 17), some (.int x1), some (.int x2)]) zd_58_27 rfl]
  rw [zs_bipush (z := 59) zd_58_28 (by decide)]
  obtain ⟨r4, hr4, H⟩ := Option.bind_eq_some_iff.mp H
  rw [zp_callVi (x := r4.1) (st := [.int 59, .ref 17]) (as := [.ref 17, .int 59]) (rest := []) (e := 1) zd_58_30 rfl (by decide +kernel) (by decide) rfl rfl (Nat.le_of_ble_eq_true rfl) (zx_rcb_ok rfl (show 17 < 119 by decide)) (Nat.le_of_ble_eq_true rfl) rfl (by decide) (zt_Reader_expect hr4)]
  rw [zs_pop (a := .int r4.1) zd_58_33 rfl]
  have H := Option.some.inj H
  subst H
  exact zs_return zd_58_34 (by decide +kernel)
set_option maxRecDepth 20000 in
theorem zt_Reader_readWrite {a b L N : Nat} {σ : zS} {τ : zT} {x1 : Int32} {r : zS × zT} (H : zf_Reader_readWrite N σ τ x1 = some r) : zx_go 3 55 0 [some (.ref 17), some (.int x1), none] [] ((119, a, b), zx_pk (zK L) 119, σ, τ, zR) = some (none, ((119, a, b), zx_pk (zK L) 119, r.1, r.2, zR)) := by
  unfold zf_Reader_readWrite at H
  rw [zs_aload_n (ls := [some (.ref 17), some (.int x1), none]) zd_55_0 rfl]
  obtain ⟨r1, hr1, H⟩ := Option.bind_eq_some_iff.mp H
  rw [zp_callVi (x := r1.1) (st := [.ref 17]) (as := [.ref 17]) (rest := []) (e := 2) zd_55_1 rfl (by decide +kernel) (by decide) rfl rfl (Nat.le_of_ble_eq_true rfl) (zx_rcb_ok rfl (show 17 < 119 by decide)) (Nat.le_of_ble_eq_true rfl) rfl (by decide) (zt_Reader_takeSetValue hr1)]
  rw [zs_istore_n (x := r1.1) (ls' := [some (.ref 17), some (.int x1), some (.int r1.1)]) zd_55_4 (Nat.le_of_ble_eq_true rfl) rfl]
  rw [zs_iload_n (ls := [some (.ref 17), some (.int x1), some (.int r1.1)]) zd_55_5 rfl]
  rw [zs_iconst (z := (-1)) zd_55_6 (by decide)]
  by_cases c2 : r1.1 = (-1)
  · rw [if_pos c2] at H
    rw [zp_icmp_eq_t (x := r1.1) (y := (-1)) (t := 37) zd_55_7 rfl c2]
    have H := Option.some.inj H
    subst H
    exact zs_return zd_55_37 (by decide +kernel)
  · rw [if_neg c2] at H
    rw [zp_icmp_eq_f (x := r1.1) (y := (-1)) (t := 37) zd_55_7 rfl c2]
    rw [zs_aload_n (ls := [some (.ref 17), some (.int x1), some (.int r1.1)]) zd_55_10 rfl]
    rw [zs_getR (n := 119) (K := zx_pk (zK L) 119) (ρ := zR) (c := 7) (k := 3) (q := 17) (p := 29) zd_55_11 rfl rfl rfl (by decide) rfl]
    rw [zs_iconst (z := 1) zd_55_14 (by decide)]
    rw [zs_iload_n (ls := [some (.ref 17), some (.int x1), some (.int r1.1)]) zd_55_15 rfl]
    obtain ⟨r3, hr3, H⟩ := Option.bind_eq_some_iff.mp H
    rw [zp_callVv (st := [.int x1, .int 1, .ref 29]) (as := [.ref 29, .int 1, .int x1]) (rest := []) (e := 1) zd_55_16 rfl (by decide +kernel) (by decide) rfl rfl (Nat.le_of_ble_eq_true rfl) (zx_rcb_ok rfl (show 29 < 119 by decide)) (Nat.le_of_ble_eq_true rfl) rfl (by decide) (zt_Weaver_emit hr3)]
    rw [zs_aload_n (ls := [some (.ref 17), some (.int x1), some (.int r1.1)]) zd_55_19 rfl]
    rw [zs_getR (n := 119) (K := zx_pk (zK L) 119) (ρ := zR) (c := 7) (k := 3) (q := 17) (p := 29) zd_55_20 rfl rfl rfl (by decide) rfl]
    rw [zs_iconst (z := (-1)) zd_55_23 (by decide)]
    rw [zs_iload_n (ls := [some (.ref 17), some (.int x1), some (.int r1.1)]) zd_55_24 rfl]
    rw [zs_iconst (z := (-1)) zd_55_25 (by decide)]
    rw [zs_iconst (z := 0) zd_55_26 (by decide)]
    obtain ⟨r4, hr4, H⟩ := Option.bind_eq_some_iff.mp H
    rw [zp_callVv (st := [.int 0, .int (-1), .int r1.1, .int (-1), .ref 29]) (as := [.ref 29, .int (-1), .int r1.1, .int (-1), .int 0]) (rest := []) (e := 1) zd_55_27 rfl (by decide +kernel) (by decide) rfl rfl (Nat.le_of_ble_eq_true rfl) (zx_rcb_ok rfl (show 29 < 119 by decide)) (Nat.le_of_ble_eq_true rfl) rfl (by decide) (zt_Weaver_work hr4)]
    rw [zs_aload_n (ls := [some (.ref 17), some (.int x1), some (.int r1.1)]) zd_55_30 rfl]
    rw [zs_bipush (z := 59) zd_55_31 (by decide)]
    obtain ⟨r5, hr5, H⟩ := Option.bind_eq_some_iff.mp H
    rw [zp_callVi (x := r5.1) (st := [.int 59, .ref 17]) (as := [.ref 17, .int 59]) (rest := []) (e := 1) zd_55_33 rfl (by decide +kernel) (by decide) rfl rfl (Nat.le_of_ble_eq_true rfl) (zx_rcb_ok rfl (show 17 < 119 by decide)) (Nat.le_of_ble_eq_true rfl) rfl (by decide) (zt_Reader_expect hr5)]
    rw [zs_pop (a := .int r5.1) zd_55_36 rfl]
    have H := Option.some.inj H
    subst H
    exact zs_return zd_55_37 (by decide +kernel)
set_option maxRecDepth 20000 in
theorem zt_Reader_readSetting_148 {a b L N : Nat} {σ : zS} {τ : zT} {v2 : Int32} {v3 : Int32} {s0 : Int32} {o1 : Option Value} {o4 : Option Value} {r : zS × zT} (H : zb_Reader_readSetting_148 N σ τ v2 v3 s0 = some r) : zx_go 4 50 148 [some (.ref 17), o1, some (.int v2), some (.int v3), o4] [.int s0] ((119, a, b), zx_pk (zK L) 119, σ, τ, zR) = some (none, ((119, a, b), zx_pk (zK L) 119, r.1, r.2, zR)) := by
  unfold zb_Reader_readSetting_148 at H
  rw [zs_istore (x := s0) (ls' := [some (.ref 17), o1, some (.int v2), some (.int v3), some (.int s0)]) zd_50_148 (Nat.le_of_ble_eq_true rfl) rfl]
  rw [zs_iload_n (ls := [some (.ref 17), o1, some (.int v2), some (.int v3), some (.int s0)]) zd_50_150 rfl]
  by_cases c16 : v2 = 0
  · rw [if_pos c16] at H
    rw [zp_if_eq_t (x := v2) (t := 162) zd_50_151 rfl c16]
    rw [zs_iload (ls := [some (.ref 17), o1, some (.int v2), some (.int v3), some (.int s0)]) zd_50_162 rfl]
    rw [zs_iconst (z := (-1)) zd_50_164 (by decide)]
    by_cases c17 : s0 = (-1)
    · rw [if_pos c17] at H
      rw [zp_icmp_eq_t (x := s0) (y := (-1)) (t := 178) zd_50_165 rfl c17]
      rw [zs_aload_n (ls := [some (.ref 17), o1, some (.int v2), some (.int v3), some (.int s0)]) zd_50_178 rfl]
      rw [zs_iload_n (ls := [some (.ref 17), o1, some (.int v2), some (.int v3), some (.int s0)]) zd_50_179 rfl]
      obtain ⟨r18, hr18, H⟩ := Option.bind_eq_some_iff.mp H
      rw [zp_callVv (st := [.int v3, .ref 17]) (as := [.ref 17, .int v3]) (rest := []) (e := 3) zd_50_180 rfl (by decide +kernel) (by decide) rfl rfl (Nat.le_of_ble_eq_true rfl) (zx_rcb_ok rfl (show 17 < 119 by decide)) (Nat.le_of_ble_eq_true rfl) rfl (by decide) (zt_Reader_readSum hr18)]
      have H := Option.some.inj H
      subst H
      exact zs_return zd_50_183 (by decide +kernel)
    · rw [if_neg c17] at H
      rw [zp_icmp_eq_f (x := s0) (y := (-1)) (t := 178) zd_50_165 rfl c17]
      rw [zs_aload_n (ls := [some (.ref 17), o1, some (.int v2), some (.int v3), some (.int s0)]) zd_50_168 rfl]
      rw [zs_iload_n (ls := [some (.ref 17), o1, some (.int v2), some (.int v3), some (.int s0)]) zd_50_169 rfl]
      rw [zs_iload (ls := [some (.ref 17), o1, some (.int v2), some (.int v3), some (.int s0)]) zd_50_170 rfl]
      obtain ⟨r19, hr19, H⟩ := Option.bind_eq_some_iff.mp H
      rw [zp_callVv (st := [.int s0, .int v3, .ref 17]) (as := [.ref 17, .int v3, .int s0]) (rest := []) (e := 2) zd_50_172 rfl (by decide +kernel) (by decide) rfl rfl (Nat.le_of_ble_eq_true rfl) (zx_rcb_ok rfl (show 17 < 119 by decide)) (Nat.le_of_ble_eq_true rfl) rfl (by decide) (zt_Reader_readRead hr19)]
      rw [zs_goto (t := 183) zd_50_175 rfl]
      have H := Option.some.inj H
      subst H
      exact zs_return zd_50_183 (by decide +kernel)
  · rw [if_neg c16] at H
    rw [zp_if_eq_f (x := v2) (t := 162) zd_50_151 rfl c16]
    rw [zs_aload_n (ls := [some (.ref 17), o1, some (.int v2), some (.int v3), some (.int s0)]) zd_50_154 rfl]
    rw [zs_iload_n (ls := [some (.ref 17), o1, some (.int v2), some (.int v3), some (.int s0)]) zd_50_155 rfl]
    obtain ⟨r20, hr20, H⟩ := Option.bind_eq_some_iff.mp H
    rw [zp_callVv (st := [.int v3, .ref 17]) (as := [.ref 17, .int v3]) (rest := []) (e := 3) zd_50_156 rfl (by decide +kernel) (by decide) rfl rfl (Nat.le_of_ble_eq_true rfl) (zx_rcb_ok rfl (show 17 < 119 by decide)) (Nat.le_of_ble_eq_true rfl) rfl (by decide) (zt_Reader_readWrite hr20)]
    rw [zs_goto (t := 183) zd_50_159 rfl]
    have H := Option.some.inj H
    subst H
    exact zs_return zd_50_183 (by decide +kernel)
set_option maxRecDepth 20000 in
theorem zt_Reader_readSetting_94 {a b L N : Nat} {σ : zS} {τ : zT} {o1 : Option Value} {o2 : Option Value} {o3 : Option Value} {o4 : Option Value} {r : zS × zT} (H : zb_Reader_readSetting_94 N σ τ = some r) : zx_go 4 50 94 [some (.ref 17), o1, o2, o3, o4] [] ((119, a, b), zx_pk (zK L) 119, σ, τ, zR) = some (none, ((119, a, b), zx_pk (zK L) 119, r.1, r.2, zR)) := by
  unfold zb_Reader_readSetting_94 at H
  rw [zs_aload_n (ls := [some (.ref 17), o1, o2, o3, o4]) zd_50_94 rfl]
  rw [zs_iconst (z := 4) zd_50_95 (by decide)]
  obtain ⟨r9, hr9, H⟩ := Option.bind_eq_some_iff.mp H
  rw [zp_callVi (x := r9.1) (st := [.int 4, .ref 17]) (as := [.ref 17, .int 4]) (rest := []) (e := 0) zd_50_96 rfl (by decide +kernel) (by decide) rfl rfl (Nat.le_of_ble_eq_true rfl) (zx_rcb_ok rfl (show 17 < 119 by decide)) (Nat.le_of_ble_eq_true rfl) rfl (by decide) (zt_Reader_failHere hr9)]
  rw [zs_pop (a := .int r9.1) zd_50_99 rfl]
  have H := Option.some.inj H
  subst H
  exact zs_return zd_50_100 (by decide +kernel)
set_option maxRecDepth 20000 in
theorem zt_Reader_readSetting_78 {a b L N : Nat} {σ : zS} {τ : zT} {v2 : Int32} {s0 : Int32} {o1 : Option Value} {o3 : Option Value} {o4 : Option Value} {r : zS × zT} (H : zb_Reader_readSetting_78 N σ τ v2 s0 = some r) : zx_go 4 50 78 [some (.ref 17), o1, some (.int v2), o3, o4] [.int s0] ((119, a, b), zx_pk (zK L) 119, σ, τ, zR) = some (none, ((119, a, b), zx_pk (zK L) 119, r.1, r.2, zR)) := by
  unfold zb_Reader_readSetting_78 at H
  rw [zs_istore_n (x := s0) (ls' := [some (.ref 17), o1, some (.int v2), some (.int s0), o4]) zd_50_78 (Nat.le_of_ble_eq_true rfl) rfl]
  rw [zs_iload_n (ls := [some (.ref 17), o1, some (.int v2), some (.int s0), o4]) zd_50_79 rfl]
  rw [zs_iconst (z := (-1)) zd_50_80 (by decide)]
  by_cases c8 : s0 = (-1)
  · rw [if_pos c8] at H
    rw [zp_icmp_eq_t (x := s0) (y := (-1)) (t := 94) zd_50_81 rfl c8]
    exact zt_Reader_readSetting_94  H
  · rw [if_neg c8] at H
    rw [zp_icmp_eq_f (x := s0) (y := (-1)) (t := 94) zd_50_81 rfl c8]
    rw [zs_aload_n (ls := [some (.ref 17), o1, some (.int v2), some (.int s0), o4]) zd_50_84 rfl]
    rw [zs_getR (n := 119) (K := zx_pk (zK L) 119) (ρ := zR) (c := 7) (k := 3) (q := 17) (p := 29) zd_50_85 rfl rfl rfl (by decide) rfl]
    obtain ⟨r10, hr10, H⟩ := Option.bind_eq_some_iff.mp H
    rw [zp_callVi (x := r10) (st := [.ref 29]) (as := [.ref 29]) (rest := []) (e := 1) zd_50_88 rfl (by decide +kernel) (by decide) rfl rfl (Nat.le_of_ble_eq_true rfl) (zx_rcb_ok rfl (show 29 < 119 by decide)) (Nat.le_of_ble_eq_true rfl) rfl (by decide) (zt_Weaver_hasRoom hr10)]
    by_cases c11 : ¬ r10 = 0
    · rw [if_pos c11] at H
      rw [zp_if_ne_t (x := r10) (t := 101) zd_50_91 rfl c11]
      rw [zs_aload_n (ls := [some (.ref 17), o1, some (.int v2), some (.int s0), o4]) zd_50_101 rfl]
      rw [zs_getR (n := 119) (K := zx_pk (zK L) 119) (ρ := zR) (c := 7) (k := 1) (q := 17) (p := 25) zd_50_102 rfl rfl rfl (by decide) rfl]
      obtain ⟨r12, hr12, H⟩ := Option.bind_eq_some_iff.mp H
      rw [zp_callVv (st := [.ref 25]) (as := [.ref 25]) (rest := []) (e := 0) zd_50_105 rfl (by decide +kernel) (by decide) rfl rfl (Nat.le_of_ble_eq_true rfl) (zx_rcb_ok rfl (show 25 < 119 by decide)) (Nat.le_of_ble_eq_true rfl) rfl (by decide) (zt_Tokens_advance hr12)]
      rw [zs_aload_n (ls := [some (.ref 17), o1, some (.int v2), some (.int s0), o4]) zd_50_108 rfl]
      rw [zs_bipush (z := 61) zd_50_109 (by decide)]
      obtain ⟨r13, hr13, H⟩ := Option.bind_eq_some_iff.mp H
      rw [zp_callVi (x := r13.1) (st := [.int 61, .ref 17]) (as := [.ref 17, .int 61]) (rest := []) (e := 1) zd_50_111 rfl (by decide +kernel) (by decide) rfl rfl (Nat.le_of_ble_eq_true rfl) (zx_rcb_ok rfl (show 17 < 119 by decide)) (Nat.le_of_ble_eq_true rfl) rfl (by decide) (zt_Reader_expect hr13)]
      by_cases c14 : ¬ r13.1 = 0
      · rw [if_pos c14] at H
        rw [zp_if_ne_t (x := r13.1) (t := 118) zd_50_114 rfl c14]
        rw [zs_aload_n (ls := [some (.ref 17), o1, some (.int v2), some (.int s0), o4]) zd_50_118 rfl]
        rw [zs_getR (n := 119) (K := zx_pk (zK L) 119) (ρ := zR) (c := 7) (k := 1) (q := 17) (p := 25) zd_50_119 rfl rfl rfl (by decide) rfl]
        rw [zp_getI (n := 119) (K := zx_pk (zK L) 119) (σ := r13.2.1) (c := 9) (k := 7) (q := 25) (v := (r13.2.1 25 7)) zd_50_122 rfl rfl rfl (by decide) rfl]
        rw [zs_iconst (z := 3) zd_50_125 (by decide)]
        by_cases c15 : ¬ (r13.2.1 25 7) = 3
        · rw [if_pos c15] at H
          rw [zp_icmp_ne_t (x := (r13.2.1 25 7)) (y := 3) (t := 147) zd_50_126 rfl c15]
          rw [zs_iconst (z := (-1)) zd_50_147 (by decide)]
          exact zt_Reader_readSetting_148  H
        · rw [if_neg c15] at H
          rw [zp_icmp_ne_f (x := (r13.2.1 25 7)) (y := 3) (t := 147) zd_50_126 rfl c15]
          rw [zs_aload_n (ls := [some (.ref 17), o1, some (.int v2), some (.int s0), o4]) zd_50_129 rfl]
          rw [zs_getR (n := 119) (K := zx_pk (zK L) 119) (ρ := zR) (c := 7) (k := 2) (q := 17) (p := 18) zd_50_130 rfl rfl rfl (by decide) rfl]
          rw [zs_aload_n (ls := [some (.ref 17), o1, some (.int v2), some (.int s0), o4]) zd_50_133 rfl]
          rw [zs_getR (n := 119) (K := zx_pk (zK L) 119) (ρ := zR) (c := 7) (k := 1) (q := 17) (p := 25) zd_50_134 rfl rfl rfl (by decide) rfl]
          rw [zp_getL (n := 119) (K := zx_pk (zK L) 119) (τ := r13.2.2) (c := 9) (k := 9) (q := 25) (v := (r13.2.2 25 9)) zd_50_137 rfl rfl rfl (by decide) rfl]
          rw [zs_iconst (z := 0) zd_50_140 (by decide)]
          obtain ⟨r21, hr21, H⟩ := Option.bind_eq_some_iff.mp H
          rw [zp_callVi (x := r21) (st := [.int 0, .long (r13.2.2 25 9), .ref 18]) (as := [.ref 18, .long (r13.2.2 25 9), .int 0]) (rest := []) (e := 0) zd_50_141 rfl (by decide +kernel) (by decide) rfl rfl (Nat.le_of_ble_eq_true rfl) (zx_rcb_ok rfl (show 18 < 119 by decide)) (Nat.le_of_ble_eq_true rfl) rfl (by decide) (zt_Names_numberOf hr21)]
          rw [zs_goto (t := 148) zd_50_144 rfl]
          exact zt_Reader_readSetting_148  H
      · rw [if_neg c14] at H
        rw [zp_if_ne_f (x := r13.1) (t := 118) zd_50_114 rfl c14]
        have H := Option.some.inj H
        subst H
        exact zs_return zd_50_117 (by decide +kernel)
    · rw [if_neg c11] at H
      rw [zp_if_ne_f (x := r10) (t := 101) zd_50_91 rfl c11]
      exact zt_Reader_readSetting_94  H
set_option maxRecDepth 20000 in
theorem zt_Reader_readSetting_41 {a b L N : Nat} {σ : zS} {τ : zT} {v1 : Int32} {s0 : Int32} {o2 : Option Value} {o3 : Option Value} {o4 : Option Value} {r : zS × zT} (H : zb_Reader_readSetting_41 N σ τ v1 s0 = some r) : zx_go 4 50 41 [some (.ref 17), some (.int v1), o2, o3, o4] [.int s0] ((119, a, b), zx_pk (zK L) 119, σ, τ, zR) = some (none, ((119, a, b), zx_pk (zK L) 119, r.1, r.2, zR)) := by
  unfold zb_Reader_readSetting_41 at H
  rw [zs_istore_n (x := s0) (ls' := [some (.ref 17), some (.int v1), some (.int s0), o3, o4]) zd_50_41 (Nat.le_of_ble_eq_true rfl) rfl]
  rw [zs_iload_n (ls := [some (.ref 17), some (.int v1), some (.int s0), o3, o4]) zd_50_42 rfl]
  by_cases c6 : s0 = 0
  · rw [if_pos c6] at H
    rw [zp_if_eq_t (x := s0) (t := 64) zd_50_43 rfl c6]
    rw [zs_aload_n (ls := [some (.ref 17), some (.int v1), some (.int s0), o3, o4]) zd_50_64 rfl]
    rw [zs_getR (n := 119) (K := zx_pk (zK L) 119) (ρ := zR) (c := 7) (k := 2) (q := 17) (p := 18) zd_50_65 rfl rfl rfl (by decide) rfl]
    rw [zs_aload_n (ls := [some (.ref 17), some (.int v1), some (.int s0), o3, o4]) zd_50_68 rfl]
    rw [zs_getR (n := 119) (K := zx_pk (zK L) 119) (ρ := zR) (c := 7) (k := 1) (q := 17) (p := 25) zd_50_69 rfl rfl rfl (by decide) rfl]
    rw [zp_getL (n := 119) (K := zx_pk (zK L) 119) (τ := τ) (c := 9) (k := 9) (q := 25) (v := (τ 25 9)) zd_50_72 rfl rfl rfl (by decide) rfl]
    obtain ⟨r7, hr7, H⟩ := Option.bind_eq_some_iff.mp H
    rw [zp_callVi (x := r7.1) (st := [.long (τ 25 9), .ref 18]) (as := [.ref 18, .long (τ 25 9)]) (rest := []) (e := 1) zd_50_75 rfl (by decide +kernel) (by decide) rfl rfl (Nat.le_of_ble_eq_true rfl) (zx_rcb_ok rfl (show 18 < 119 by decide)) (Nat.le_of_ble_eq_true rfl) rfl (by decide) (zt_Names_makeLocal hr7)]
    exact zt_Reader_readSetting_78  H
  · rw [if_neg c6] at H
    rw [zp_if_eq_f (x := s0) (t := 64) zd_50_43 rfl c6]
    rw [zs_aload_n (ls := [some (.ref 17), some (.int v1), some (.int s0), o3, o4]) zd_50_46 rfl]
    rw [zs_getR (n := 119) (K := zx_pk (zK L) 119) (ρ := zR) (c := 7) (k := 2) (q := 17) (p := 18) zd_50_47 rfl rfl rfl (by decide) rfl]
    rw [zs_aload_n (ls := [some (.ref 17), some (.int v1), some (.int s0), o3, o4]) zd_50_50 rfl]
    rw [zs_getR (n := 119) (K := zx_pk (zK L) 119) (ρ := zR) (c := 7) (k := 1) (q := 17) (p := 25) zd_50_51 rfl rfl rfl (by decide) rfl]
    rw [zp_getL (n := 119) (K := zx_pk (zK L) 119) (τ := τ) (c := 9) (k := 9) (q := 25) (v := (τ 25 9)) zd_50_54 rfl rfl rfl (by decide) rfl]
    rw [zs_iload_n (ls := [some (.ref 17), some (.int v1), some (.int s0), o3, o4]) zd_50_57 rfl]
    obtain ⟨r22, hr22, H⟩ := Option.bind_eq_some_iff.mp H
    rw [zp_callVi (x := r22) (st := [.int v1, .long (τ 25 9), .ref 18]) (as := [.ref 18, .long (τ 25 9), .int v1]) (rest := []) (e := 0) zd_50_58 rfl (by decide +kernel) (by decide) rfl rfl (Nat.le_of_ble_eq_true rfl) (zx_rcb_ok rfl (show 18 < 119 by decide)) (Nat.le_of_ble_eq_true rfl) rfl (by decide) (zt_Names_numberOf hr22)]
    rw [zs_goto (t := 78) zd_50_61 rfl]
    exact zt_Reader_readSetting_78  H
set_option maxRecDepth 20000 in
theorem zt_Reader_readSetting_25 {a b L N : Nat} {σ : zS} {τ : zT} {o1 : Option Value} {o2 : Option Value} {o3 : Option Value} {o4 : Option Value} {r : zS × zT} (H : zb_Reader_readSetting_25 N σ τ = some r) : zx_go 4 50 25 [some (.ref 17), o1, o2, o3, o4] [] ((119, a, b), zx_pk (zK L) 119, σ, τ, zR) = some (none, ((119, a, b), zx_pk (zK L) 119, r.1, r.2, zR)) := by
  unfold zb_Reader_readSetting_25 at H
  rw [zs_aload_n (ls := [some (.ref 17), o1, o2, o3, o4]) zd_50_25 rfl]
  rw [zs_iconst (z := 2) zd_50_26 (by decide)]
  obtain ⟨r3, hr3, H⟩ := Option.bind_eq_some_iff.mp H
  rw [zp_callVi (x := r3.1) (st := [.int 2, .ref 17]) (as := [.ref 17, .int 2]) (rest := []) (e := 0) zd_50_27 rfl (by decide +kernel) (by decide) rfl rfl (Nat.le_of_ble_eq_true rfl) (zx_rcb_ok rfl (show 17 < 119 by decide)) (Nat.le_of_ble_eq_true rfl) rfl (by decide) (zt_Reader_failHere hr3)]
  rw [zs_pop (a := .int r3.1) zd_50_30 rfl]
  have H := Option.some.inj H
  subst H
  exact zs_return zd_50_31 (by decide +kernel)
set_option maxRecDepth 20000 in
theorem zt_Reader_readSetting {a b L N : Nat} {σ : zS} {τ : zT} {r : zS × zT} (H : zf_Reader_readSetting N σ τ = some r) : zx_go 4 50 0 [some (.ref 17), none, none, none, none] [] ((119, a, b), zx_pk (zK L) 119, σ, τ, zR) = some (none, ((119, a, b), zx_pk (zK L) 119, r.1, r.2, zR)) := by
  unfold zf_Reader_readSetting at H
  rw [zs_aload_n (ls := [some (.ref 17), none, none, none, none]) zd_50_0 rfl]
  rw [zs_getR (n := 119) (K := zx_pk (zK L) 119) (ρ := zR) (c := 7) (k := 2) (q := 17) (p := 18) zd_50_1 rfl rfl rfl (by decide) rfl]
  rw [zs_aload_n (ls := [some (.ref 17), none, none, none, none]) zd_50_4 rfl]
  rw [zs_getR (n := 119) (K := zx_pk (zK L) 119) (ρ := zR) (c := 7) (k := 1) (q := 17) (p := 25) zd_50_5 rfl rfl rfl (by decide) rfl]
  rw [zp_getL (n := 119) (K := zx_pk (zK L) 119) (τ := τ) (c := 9) (k := 9) (q := 25) (v := (τ 25 9)) zd_50_8 rfl rfl rfl (by decide) rfl]
  obtain ⟨r1, hr1, H⟩ := Option.bind_eq_some_iff.mp H
  rw [zp_callVi (x := r1) (st := [.long (τ 25 9), .ref 18]) (as := [.ref 18, .long (τ 25 9)]) (rest := []) (e := 0) zd_50_11 rfl (by decide +kernel) (by decide) rfl rfl (Nat.le_of_ble_eq_true rfl) (zx_rcb_ok rfl (show 18 < 119 by decide)) (Nat.le_of_ble_eq_true rfl) rfl (by decide) (zt_Names_sortOf hr1)]
  rw [zs_istore_n (x := r1) (ls' := [some (.ref 17), some (.int r1), none, none, none]) zd_50_14 (Nat.le_of_ble_eq_true rfl) rfl]
  rw [zs_iload_n (ls := [some (.ref 17), some (.int r1), none, none, none]) zd_50_15 rfl]
  rw [zs_iconst (z := 1) zd_50_16 (by decide)]
  by_cases c2 : r1 = 1
  · rw [if_pos c2] at H
    rw [zp_icmp_eq_t (x := r1) (y := 1) (t := 25) zd_50_17 rfl c2]
    exact zt_Reader_readSetting_25  H
  · rw [if_neg c2] at H
    rw [zp_icmp_eq_f (x := r1) (y := 1) (t := 25) zd_50_17 rfl c2]
    rw [zs_iload_n (ls := [some (.ref 17), some (.int r1), none, none, none]) zd_50_20 rfl]
    rw [zs_iconst (z := 2) zd_50_21 (by decide)]
    by_cases c4 : ¬ r1 = 2
    · rw [if_pos c4] at H
      rw [zp_icmp_ne_t (x := r1) (y := 2) (t := 32) zd_50_22 rfl c4]
      rw [zs_iload_n (ls := [some (.ref 17), some (.int r1), none, none, none]) zd_50_32 rfl]
      by_cases c5 : ¬ r1 = 0
      · rw [if_pos c5] at H
        rw [zp_if_ne_t (x := r1) (t := 40) zd_50_33 rfl c5]
        rw [zs_iconst (z := 0) zd_50_40 (by decide)]
        exact zt_Reader_readSetting_41  H
      · rw [if_neg c5] at H
        rw [zp_if_ne_f (x := r1) (t := 40) zd_50_33 rfl c5]
        rw [zs_iconst (z := 1) zd_50_36 (by decide)]
        rw [zs_goto (t := 41) zd_50_37 rfl]
        exact zt_Reader_readSetting_41  H
    · rw [if_neg c4] at H
      rw [zp_icmp_ne_f (x := r1) (y := 2) (t := 32) zd_50_22 rfl c4]
      exact zt_Reader_readSetting_25  H
set_option maxRecDepth 20000 in
theorem zt_Reader_readStatement {a b L N : Nat} {σ : zS} {τ : zT} {r : zS × zT} (H : zf_Reader_readStatement N σ τ = some r) : zx_go 5 35 0 [some (.ref 17)] [] ((119, a, b), zx_pk (zK L) 119, σ, τ, zR) = some (none, ((119, a, b), zx_pk (zK L) 119, r.1, r.2, zR)) := by
  unfold zf_Reader_readStatement at H
  rw [zs_aload_n (ls := [some (.ref 17)]) zd_35_0 rfl]
  rw [zs_getR (n := 119) (K := zx_pk (zK L) 119) (ρ := zR) (c := 7) (k := 1) (q := 17) (p := 25) zd_35_1 rfl rfl rfl (by decide) rfl]
  rw [zp_getI (n := 119) (K := zx_pk (zK L) 119) (σ := σ) (c := 9) (k := 7) (q := 25) (v := (σ 25 7)) zd_35_4 rfl rfl rfl (by decide) rfl]
  by_cases c1 : (σ 25 7) = 3
  · rw [if_pos c1] at H
    rw [zs_lookup (x := (σ 25 7)) (off := 112) (t := 119) zd_35_7 (by decide) (by rw [c1]; decide) rfl]
    rw [zs_aload_n (ls := [some (.ref 17)]) zd_35_119 rfl]
    obtain ⟨r25, hr25, H⟩ := Option.bind_eq_some_iff.mp H
    rw [zp_callVv (st := [.ref 17]) (as := [.ref 17]) (rest := []) (e := 4) zd_35_120 rfl (by decide +kernel) (by decide) rfl rfl (Nat.le_of_ble_eq_true rfl) (zx_rcb_ok rfl (show 17 < 119 by decide)) (Nat.le_of_ble_eq_true rfl) rfl (by decide) (zt_Reader_readSetting hr25)]
    rw [zs_goto (t := 215) zd_35_123 rfl]
    have H := Option.some.inj H
    subst H
    exact zs_return zd_35_215 (by decide +kernel)
  · rw [if_neg c1] at H
    by_cases c2 : (σ 25 7) = 125
    · rw [if_pos c2] at H
      rw [zs_lookup (x := (σ 25 7)) (off := 105) (t := 112) zd_35_7 (by decide) (by rw [c2]; decide) rfl]
      rw [zs_aload_n (ls := [some (.ref 17)]) zd_35_112 rfl]
      obtain ⟨r24, hr24, H⟩ := Option.bind_eq_some_iff.mp H
      rw [zp_callVv (st := [.ref 17]) (as := [.ref 17]) (rest := []) (e := 3) zd_35_113 rfl (by decide +kernel) (by decide) rfl rfl (Nat.le_of_ble_eq_true rfl) (zx_rcb_ok rfl (show 17 < 119 by decide)) (Nat.le_of_ble_eq_true rfl) rfl (by decide) (zt_Reader_closeBlock hr24)]
      rw [zs_goto (t := 215) zd_35_116 rfl]
      have H := Option.some.inj H
      subst H
      exact zs_return zd_35_215 (by decide +kernel)
    · rw [if_neg c2] at H
      by_cases c3 : (σ 25 7) = 302
      · rw [if_pos c3] at H
        rw [zs_lookup (x := (σ 25 7)) (off := 126) (t := 133) zd_35_7 (by decide) (by rw [c3]; decide) rfl]
        rw [zs_aload_n (ls := [some (.ref 17)]) zd_35_133 rfl]
        obtain ⟨r23, hr23, H⟩ := Option.bind_eq_some_iff.mp H
        rw [zp_callVv (st := [.ref 17]) (as := [.ref 17]) (rest := []) (e := 3) zd_35_134 rfl (by decide +kernel) (by decide) rfl rfl (Nat.le_of_ble_eq_true rfl) (zx_rcb_ok rfl (show 17 < 119 by decide)) (Nat.le_of_ble_eq_true rfl) rfl (by decide) (zt_Reader_readLock hr23)]
        rw [zs_goto (t := 215) zd_35_137 rfl]
        have H := Option.some.inj H
        subst H
        exact zs_return zd_35_215 (by decide +kernel)
      · rw [if_neg c3] at H
        by_cases c4 : (σ 25 7) = 304
        · rw [if_pos c4] at H
          rw [zs_lookup (x := (σ 25 7)) (off := 133) (t := 140) zd_35_7 (by decide) (by rw [c4]; decide) rfl]
          rw [zs_aload_n (ls := [some (.ref 17)]) zd_35_140 rfl]
          rw [zs_iconst (z := 5) zd_35_141 (by decide)]
          rw [zs_iconst (z := 3) zd_35_142 (by decide)]
          obtain ⟨r22, hr22, H⟩ := Option.bind_eq_some_iff.mp H
          rw [zp_callVv (st := [.int 3, .int 5, .ref 17]) (as := [.ref 17, .int 5, .int 3]) (rest := []) (e := 4) zd_35_143 rfl (by decide +kernel) (by decide) rfl rfl (Nat.le_of_ble_eq_true rfl) (zx_rcb_ok rfl (show 17 < 119 by decide)) (Nat.le_of_ble_eq_true rfl) rfl (by decide) (zt_Reader_readBranch hr22)]
          rw [zs_goto (t := 215) zd_35_146 rfl]
          have H := Option.some.inj H
          subst H
          exact zs_return zd_35_215 (by decide +kernel)
        · rw [if_neg c4] at H
          by_cases c5 : (σ 25 7) = 306
          · rw [if_pos c5] at H
            rw [zs_lookup (x := (σ 25 7)) (off := 142) (t := 149) zd_35_7 (by decide) (by rw [c5]; decide) rfl]
            rw [zs_aload_n (ls := [some (.ref 17)]) zd_35_149 rfl]
            rw [zs_bipush (z := 6) zd_35_150 (by decide)]
            rw [zs_iconst (z := 5) zd_35_152 (by decide)]
            obtain ⟨r21, hr21, H⟩ := Option.bind_eq_some_iff.mp H
            rw [zp_callVv (st := [.int 5, .int 6, .ref 17]) (as := [.ref 17, .int 6, .int 5]) (rest := []) (e := 4) zd_35_153 rfl (by decide +kernel) (by decide) rfl rfl (Nat.le_of_ble_eq_true rfl) (zx_rcb_ok rfl (show 17 < 119 by decide)) (Nat.le_of_ble_eq_true rfl) rfl (by decide) (zt_Reader_readBranch hr21)]
            rw [zs_goto (t := 215) zd_35_156 rfl]
            have H := Option.some.inj H
            subst H
            exact zs_return zd_35_215 (by decide +kernel)
          · rw [if_neg c5] at H
            by_cases c6 : (σ 25 7) = 307
            · rw [if_pos c6] at H
              rw [zs_lookup (x := (σ 25 7)) (off := 152) (t := 159) zd_35_7 (by decide) (by rw [c6]; decide) rfl]
              rw [zs_aload_n (ls := [some (.ref 17)]) zd_35_159 rfl]
              rw [zs_bipush (z := 7) zd_35_160 (by decide)]
              obtain ⟨r20, hr20, H⟩ := Option.bind_eq_some_iff.mp H
              rw [zp_callVv (st := [.int 7, .ref 17]) (as := [.ref 17, .int 7]) (rest := []) (e := 3) zd_35_162 rfl (by decide +kernel) (by decide) rfl rfl (Nat.le_of_ble_eq_true rfl) (zx_rcb_ok rfl (show 17 < 119 by decide)) (Nat.le_of_ble_eq_true rfl) rfl (by decide) (zt_Reader_readSignal hr20)]
              rw [zs_goto (t := 215) zd_35_165 rfl]
              have H := Option.some.inj H
              subst H
              exact zs_return zd_35_215 (by decide +kernel)
            · rw [if_neg c6] at H
              by_cases c7 : (σ 25 7) = 308
              · rw [if_pos c7] at H
                rw [zs_lookup (x := (σ 25 7)) (off := 161) (t := 168) zd_35_7 (by decide) (by rw [c7]; decide) rfl]
                rw [zs_aload_n (ls := [some (.ref 17)]) zd_35_168 rfl]
                rw [zs_bipush (z := 8) zd_35_169 (by decide)]
                obtain ⟨r19, hr19, H⟩ := Option.bind_eq_some_iff.mp H
                rw [zp_callVv (st := [.int 8, .ref 17]) (as := [.ref 17, .int 8]) (rest := []) (e := 3) zd_35_171 rfl (by decide +kernel) (by decide) rfl rfl (Nat.le_of_ble_eq_true rfl) (zx_rcb_ok rfl (show 17 < 119 by decide)) (Nat.le_of_ble_eq_true rfl) rfl (by decide) (zt_Reader_readSignal hr19)]
                rw [zs_goto (t := 215) zd_35_174 rfl]
                have H := Option.some.inj H
                subst H
                exact zs_return zd_35_215 (by decide +kernel)
              · rw [if_neg c7] at H
                by_cases c8 : (σ 25 7) = 310
                · rw [if_pos c8] at H
                  rw [zs_lookup (x := (σ 25 7)) (off := 170) (t := 177) zd_35_7 (by decide) (by rw [c8]; decide) rfl]
                  rw [zs_aload_n (ls := [some (.ref 17)]) zd_35_177 rfl]
                  rw [zs_bipush (z := 10) zd_35_178 (by decide)]
                  obtain ⟨r18, hr18, H⟩ := Option.bind_eq_some_iff.mp H
                  rw [zp_callVv (st := [.int 10, .ref 17]) (as := [.ref 17, .int 10]) (rest := []) (e := 3) zd_35_180 rfl (by decide +kernel) (by decide) rfl rfl (Nat.le_of_ble_eq_true rfl) (zx_rcb_ok rfl (show 17 < 119 by decide)) (Nat.le_of_ble_eq_true rfl) rfl (by decide) (zt_Reader_readThreadStep hr18)]
                  rw [zs_goto (t := 215) zd_35_183 rfl]
                  have H := Option.some.inj H
                  subst H
                  exact zs_return zd_35_215 (by decide +kernel)
                · rw [if_neg c8] at H
                  by_cases c9 : (σ 25 7) = 311
                  · rw [if_pos c9] at H
                    rw [zs_lookup (x := (σ 25 7)) (off := 179) (t := 186) zd_35_7 (by decide) (by rw [c9]; decide) rfl]
                    rw [zs_aload_n (ls := [some (.ref 17)]) zd_35_186 rfl]
                    rw [zs_bipush (z := 11) zd_35_187 (by decide)]
                    obtain ⟨r17, hr17, H⟩ := Option.bind_eq_some_iff.mp H
                    rw [zp_callVv (st := [.int 11, .ref 17]) (as := [.ref 17, .int 11]) (rest := []) (e := 3) zd_35_189 rfl (by decide +kernel) (by decide) rfl rfl (Nat.le_of_ble_eq_true rfl) (zx_rcb_ok rfl (show 17 < 119 by decide)) (Nat.le_of_ble_eq_true rfl) rfl (by decide) (zt_Reader_readThreadStep hr17)]
                    rw [zs_goto (t := 215) zd_35_192 rfl]
                    have H := Option.some.inj H
                    subst H
                    exact zs_return zd_35_215 (by decide +kernel)
                  · rw [if_neg c9] at H
                    by_cases c10 : (σ 25 7) = 312
                    · rw [if_pos c10] at H
                      rw [zs_lookup (x := (σ 25 7)) (off := 188) (t := 195) zd_35_7 (by decide) (by rw [c10]; decide) rfl]
                      rw [zs_aload_n (ls := [some (.ref 17)]) zd_35_195 rfl]
                      obtain ⟨r16, hr16, H⟩ := Option.bind_eq_some_iff.mp H
                      rw [zp_callVv (st := [.ref 17]) (as := [.ref 17]) (rest := []) (e := 4) zd_35_196 rfl (by decide +kernel) (by decide) rfl rfl (Nat.le_of_ble_eq_true rfl) (zx_rcb_ok rfl (show 17 < 119 by decide)) (Nat.le_of_ble_eq_true rfl) rfl (by decide) (zt_Reader_readCheck hr16)]
                      rw [zs_goto (t := 215) zd_35_199 rfl]
                      have H := Option.some.inj H
                      subst H
                      exact zs_return zd_35_215 (by decide +kernel)
                    · rw [if_neg c10] at H
                      by_cases c11 : (σ 25 7) = 313
                      · rw [if_pos c11] at H
                        rw [zs_lookup (x := (σ 25 7)) (off := 195) (t := 202) zd_35_7 (by decide) (by rw [c11]; decide) rfl]
                        rw [zs_aload_n (ls := [some (.ref 17)]) zd_35_202 rfl]
                        obtain ⟨r15, hr15, H⟩ := Option.bind_eq_some_iff.mp H
                        rw [zp_callVv (st := [.ref 17]) (as := [.ref 17]) (rest := []) (e := 3) zd_35_203 rfl (by decide +kernel) (by decide) rfl rfl (Nat.le_of_ble_eq_true rfl) (zx_rcb_ok rfl (show 17 < 119 by decide)) (Nat.le_of_ble_eq_true rfl) rfl (by decide) (zt_Reader_readStop hr15)]
                        rw [zs_goto (t := 215) zd_35_206 rfl]
                        have H := Option.some.inj H
                        subst H
                        exact zs_return zd_35_215 (by decide +kernel)
                      · rw [if_neg c11] at H
                        by_cases c12 : (σ 25 7) = 314
                        · rw [if_pos c12] at H
                          rw [zs_lookup (x := (σ 25 7)) (off := 119) (t := 126) zd_35_7 (by decide) (by rw [c12]; decide) rfl]
                          rw [zs_aload_n (ls := [some (.ref 17)]) zd_35_126 rfl]
                          obtain ⟨r14, hr14, H⟩ := Option.bind_eq_some_iff.mp H
                          rw [zp_callVv (st := [.ref 17]) (as := [.ref 17]) (rest := []) (e := 3) zd_35_127 rfl (by decide +kernel) (by decide) rfl rfl (Nat.le_of_ble_eq_true rfl) (zx_rcb_ok rfl (show 17 < 119 by decide)) (Nat.le_of_ble_eq_true rfl) rfl (by decide) (zt_Reader_readSpan hr14)]
                          rw [zs_goto (t := 215) zd_35_130 rfl]
                          have H := Option.some.inj H
                          subst H
                          exact zs_return zd_35_215 (by decide +kernel)
                        · rw [if_neg c12] at H
                          rw [zs_lookup (x := (σ 25 7)) (off := 202) (t := 209) zd_35_7 (by decide) (Eq.trans (if_neg (zJ_ne (x := (σ 25 7)) (z := 3) (a := 3) c1 rfl)) (Eq.trans (if_neg (zJ_ne (x := (σ 25 7)) (z := 125) (a := 125) c2 rfl)) (Eq.trans (if_neg (zJ_ne (x := (σ 25 7)) (z := 302) (a := 302) c3 rfl)) (Eq.trans (if_neg (zJ_ne (x := (σ 25 7)) (z := 304) (a := 304) c4 rfl)) (Eq.trans (if_neg (zJ_ne (x := (σ 25 7)) (z := 306) (a := 306) c5 rfl)) (Eq.trans (if_neg (zJ_ne (x := (σ 25 7)) (z := 307) (a := 307) c6 rfl)) (Eq.trans (if_neg (zJ_ne (x := (σ 25 7)) (z := 308) (a := 308) c7 rfl)) (Eq.trans (if_neg (zJ_ne (x := (σ 25 7)) (z := 310) (a := 310) c8 rfl)) (Eq.trans (if_neg (zJ_ne (x := (σ 25 7)) (z := 311) (a := 311) c9 rfl)) (Eq.trans (if_neg (zJ_ne (x := (σ 25 7)) (z := 312) (a := 312) c10 rfl)) (Eq.trans (if_neg (zJ_ne (x := (σ 25 7)) (z := 313) (a := 313) c11 rfl)) (Eq.trans (if_neg (zJ_ne (x := (σ 25 7)) (z := 314) (a := 314) c12 rfl)) rfl)))))))))))) rfl]
                          rw [zs_aload_n (ls := [some (.ref 17)]) zd_35_209 rfl]
                          rw [zs_iconst (z := 2) zd_35_210 (by decide)]
                          obtain ⟨r13, hr13, H⟩ := Option.bind_eq_some_iff.mp H
                          rw [zp_callVi (x := r13.1) (st := [.int 2, .ref 17]) (as := [.ref 17, .int 2]) (rest := []) (e := 0) zd_35_211 rfl (by decide +kernel) (by decide) rfl rfl (Nat.le_of_ble_eq_true rfl) (zx_rcb_ok rfl (show 17 < 119 by decide)) (Nat.le_of_ble_eq_true rfl) rfl (by decide) (zt_Reader_failHere hr13)]
                          rw [zs_pop (a := .int r13.1) zd_35_214 rfl]
                          have H := Option.some.inj H
                          subst H
                          exact zs_return zd_35_215 (by decide +kernel)
set_option maxRecDepth 20000 in
theorem zt_Reader_readText_95 {a b L N : Nat} : ∀ {n : Nat} {σ : zS} {τ : zT} {v2 : Int32} {o1 : Option Value} {r : zS × zT}, zb_Reader_readText_95 N n σ τ v2 = some r → zx_go 6 20 95 [some (.ref 17), o1, some (.int v2)] [] ((119, a, b), zx_pk (zK L) 119, σ, τ, zR) = some (none, ((119, a, b), zx_pk (zK L) 119, r.1, r.2, zR)) := by
  intro n
  induction n with
  | zero =>
    intro _ _ _ _ _ H
    cases H
  | succ n ih =>
    intro σ τ v2 o1 r H
    rw [zb_Reader_readText_95] at H
    rw [zs_iload_n (ls := [some (.ref 17), o1, some (.int v2)]) zd_20_95 rfl]
    rw [zs_bipush (z := 96) zd_20_96 (by decide)]
    by_cases c6 : 96 ≤ v2
    · rw [if_pos c6] at H
      rw [zp_icmp_ge_t (x := v2) (y := 96) (t := 119) zd_20_98 rfl c6]
      have H := Option.some.inj H
      subst H
      exact zs_return zd_20_119 (by decide +kernel)
    · rw [if_neg c6] at H
      rw [zp_icmp_ge_f (x := v2) (y := 96) (t := 119) zd_20_98 rfl c6]
      rw [zs_aload_n (ls := [some (.ref 17), o1, some (.int v2)]) zd_20_101 rfl]
      rw [zp_getI (n := 119) (K := zx_pk (zK L) 119) (σ := σ) (c := 7) (k := 6) (q := 17) (v := (σ 17 6)) zd_20_102 rfl rfl rfl (by decide) rfl]
      by_cases c7 : ¬ (σ 17 6) = 0
      · rw [if_pos c7] at H
        rw [zp_if_ne_t (x := (σ 17 6)) (t := 119) zd_20_105 rfl c7]
        have H := Option.some.inj H
        subst H
        exact zs_return zd_20_119 (by decide +kernel)
      · rw [if_neg c7] at H
        rw [zp_if_ne_f (x := (σ 17 6)) (t := 119) zd_20_105 rfl c7]
        rw [zs_aload_n (ls := [some (.ref 17), o1, some (.int v2)]) zd_20_108 rfl]
        rw [zs_iload_n (ls := [some (.ref 17), o1, some (.int v2)]) zd_20_109 rfl]
        obtain ⟨r8, hr8, H⟩ := Option.bind_eq_some_iff.mp H
        rw [zp_callVv (st := [.int v2, .ref 17]) (as := [.ref 17, .int v2]) (rest := []) (e := 1) zd_20_110 rfl (by decide +kernel) (by decide) rfl rfl (Nat.le_of_ble_eq_true rfl) (zx_rcb_ok rfl (show 17 < 119 by decide)) (Nat.le_of_ble_eq_true rfl) rfl (by decide) (zt_Reader_findThread hr8)]
        rw [zs_iinc (ls := [some (.ref 17), o1, some (.int v2)]) (x := v2) (z := (v2 + 1)) (ls' := [some (.ref 17), (zJ_cl o1), some (.int (v2 + 1))]) zd_20_113 rfl rfl (zJ_s1 (k := 1) (o := o1) rfl)]
        rw [zs_goto (t := 95) zd_20_116 rfl]
        exact ih H
set_option maxRecDepth 20000 in
theorem zt_Reader_readText_93 {a b L N : Nat} {σ : zS} {τ : zT} {o1 : Option Value} {o2 : Option Value} {r : zS × zT} (H : zb_Reader_readText_93 N σ τ = some r) : zx_go 6 20 93 [some (.ref 17), o1, o2] [] ((119, a, b), zx_pk (zK L) 119, σ, τ, zR) = some (none, ((119, a, b), zx_pk (zK L) 119, r.1, r.2, zR)) := by
  unfold zb_Reader_readText_93 at H
  rw [zs_iconst (z := 0) zd_20_93 (by decide)]
  rw [zs_istore_n (x := 0) (ls' := [some (.ref 17), (zJ_cl o1), some (.int 0)]) zd_20_94 (Nat.le_of_ble_eq_true rfl) (zJ_s1 (k := 1) (o := o1) rfl)]
  exact zt_Reader_readText_95  H
set_option maxRecDepth 20000 in
theorem zt_Reader_readText_87 {a b L N : Nat} {k42 : zS → zT → Int32 → Option (zS × zT)} (hk42 : ∀ {σ : zS} {τ : zT} {v2 : Int32} {o1 : Option Value} {r : zS × zT}, k42 σ τ v2 = some r → zx_go 6 20 42 [some (.ref 17), o1, some (.int v2)] [] ((119, a, b), zx_pk (zK L) 119, σ, τ, zR) = some (none, ((119, a, b), zx_pk (zK L) 119, r.1, r.2, zR))) {σ : zS} {τ : zT} {v2 : Int32} {o1 : Option Value} {r : zS × zT} (H : zb_Reader_readText_87 k42 N σ τ v2 = some r) : zx_go 6 20 87 [some (.ref 17), o1, some (.int v2)] [] ((119, a, b), zx_pk (zK L) 119, σ, τ, zR) = some (none, ((119, a, b), zx_pk (zK L) 119, r.1, r.2, zR)) := by
  unfold zb_Reader_readText_87 at H
  rw [zs_iinc (ls := [some (.ref 17), o1, some (.int v2)]) (x := v2) (z := (v2 + 1)) (ls' := [some (.ref 17), (zJ_cl o1), some (.int (v2 + 1))]) zd_20_87 rfl rfl (zJ_s1 (k := 1) (o := o1) rfl)]
  rw [zs_goto (t := 42) zd_20_90 rfl]
  exact hk42 H
set_option maxRecDepth 20000 in
theorem zt_Reader_readText_42 {a b L N : Nat} : ∀ {n : Nat} {σ : zS} {τ : zT} {v2 : Int32} {o1 : Option Value} {r : zS × zT}, zb_Reader_readText_42 N n σ τ v2 = some r → zx_go 6 20 42 [some (.ref 17), o1, some (.int v2)] [] ((119, a, b), zx_pk (zK L) 119, σ, τ, zR) = some (none, ((119, a, b), zx_pk (zK L) 119, r.1, r.2, zR)) := by
  intro n
  induction n with
  | zero =>
    intro _ _ _ _ _ H
    cases H
  | succ n ih =>
    intro σ τ v2 o1 r H
    rw [zb_Reader_readText_42] at H
    rw [zs_iload_n (ls := [some (.ref 17), o1, some (.int v2)]) zd_20_42 rfl]
    rw [zs_sipush (z := 1500) zd_20_43 (by decide)]
    by_cases c5 : 1500 < v2
    · rw [if_pos c5] at H
      rw [zp_icmp_gt_t (x := v2) (y := 1500) (t := 93) zd_20_46 rfl c5]
      exact zt_Reader_readText_93  H
    · rw [if_neg c5] at H
      rw [zp_icmp_gt_f (x := v2) (y := 1500) (t := 93) zd_20_46 rfl c5]
      rw [zs_aload_n (ls := [some (.ref 17), o1, some (.int v2)]) zd_20_49 rfl]
      rw [zp_getI (n := 119) (K := zx_pk (zK L) 119) (σ := σ) (c := 7) (k := 6) (q := 17) (v := (σ 17 6)) zd_20_50 rfl rfl rfl (by decide) rfl]
      by_cases c9 : ¬ (σ 17 6) = 0
      · rw [if_pos c9] at H
        rw [zp_if_ne_t (x := (σ 17 6)) (t := 93) zd_20_53 rfl c9]
        exact zt_Reader_readText_93  H
      · rw [if_neg c9] at H
        rw [zp_if_ne_f (x := (σ 17 6)) (t := 93) zd_20_53 rfl c9]
        rw [zs_aload_n (ls := [some (.ref 17), o1, some (.int v2)]) zd_20_56 rfl]
        rw [zs_getR (n := 119) (K := zx_pk (zK L) 119) (ρ := zR) (c := 7) (k := 3) (q := 17) (p := 29) zd_20_57 rfl rfl rfl (by decide) rfl]
        rw [zp_getI (n := 119) (K := zx_pk (zK L) 119) (σ := σ) (c := 10) (k := 6) (q := 29) (v := (σ 29 6)) zd_20_60 rfl rfl rfl (by decide) rfl]
        by_cases c10 : (σ 29 6) ≤ 0
        · rw [if_pos c10] at H
          rw [zp_if_le_t (x := (σ 29 6)) (t := 73) zd_20_63 rfl c10]
          rw [zs_aload_n (ls := [some (.ref 17), o1, some (.int v2)]) zd_20_73 rfl]
          rw [zs_getR (n := 119) (K := zx_pk (zK L) 119) (ρ := zR) (c := 7) (k := 1) (q := 17) (p := 25) zd_20_74 rfl rfl rfl (by decide) rfl]
          rw [zp_getI (n := 119) (K := zx_pk (zK L) 119) (σ := σ) (c := 9) (k := 7) (q := 25) (v := (σ 25 7)) zd_20_77 rfl rfl rfl (by decide) rfl]
          by_cases c11 : (σ 25 7) = 0
          · rw [if_pos c11] at H
            rw [zp_if_eq_t (x := (σ 25 7)) (t := 93) zd_20_80 rfl c11]
            exact zt_Reader_readText_93  H
          · rw [if_neg c11] at H
            rw [zp_if_eq_f (x := (σ 25 7)) (t := 93) zd_20_80 rfl c11]
            rw [zs_aload_n (ls := [some (.ref 17), o1, some (.int v2)]) zd_20_83 rfl]
            obtain ⟨r12, hr12, H⟩ := Option.bind_eq_some_iff.mp H
            rw [zp_callVv (st := [.ref 17]) (as := [.ref 17]) (rest := []) (e := 4) zd_20_84 rfl (by decide +kernel) (by decide) rfl rfl (Nat.le_of_ble_eq_true rfl) (zx_rcb_ok rfl (show 17 < 119 by decide)) (Nat.le_of_ble_eq_true rfl) rfl (by decide) (zt_Reader_readTelling hr12)]
            exact zt_Reader_readText_87 (hk42 := ih) H
        · rw [if_neg c10] at H
          rw [zp_if_le_f (x := (σ 29 6)) (t := 73) zd_20_63 rfl c10]
          rw [zs_aload_n (ls := [some (.ref 17), o1, some (.int v2)]) zd_20_66 rfl]
          obtain ⟨r13, hr13, H⟩ := Option.bind_eq_some_iff.mp H
          rw [zp_callVv (st := [.ref 17]) (as := [.ref 17]) (rest := []) (e := 5) zd_20_67 rfl (by decide +kernel) (by decide) rfl rfl (Nat.le_of_ble_eq_true rfl) (zx_rcb_ok rfl (show 17 < 119 by decide)) (Nat.le_of_ble_eq_true rfl) rfl (by decide) (zt_Reader_readStatement hr13)]
          rw [zs_goto (t := 87) zd_20_70 rfl]
          exact zt_Reader_readText_87 (hk42 := ih) H
set_option maxRecDepth 20000 in
theorem zt_Reader_readText {a b L N : Nat} {σ : zS} {τ : zT} {x1 : Int32} {r : zS × zT} (H : zf_Reader_readText N σ τ x1 = some r) : zx_go 6 20 0 [some (.ref 17), some (.int x1), none] [] ((119, a, b), zx_pk (zK L) 119, σ, τ, zR) = some (none, ((119, a, b), zx_pk (zK L) 119, r.1, r.2, zR)) := by
  unfold zf_Reader_readText at H
  rw [zs_aload_n (ls := [some (.ref 17), some (.int x1), none]) zd_20_0 rfl]
  rw [zs_iconst (z := 0) zd_20_1 (by decide)]
  rw [zs_putI (n := 119) (K := zx_pk (zK L) 119) (c := 7) (k := 6) (q := 17) (x := 0) zd_20_2 rfl rfl (by decide +kernel) rfl (by decide)]
  rw [zs_aload_n (ls := [some (.ref 17), some (.int x1), none]) zd_20_5 rfl]
  rw [zs_iconst (z := 0) zd_20_6 (by decide)]
  rw [zs_putI (n := 119) (K := zx_pk (zK L) 119) (c := 7) (k := 7) (q := 17) (x := 0) zd_20_7 rfl rfl (by decide +kernel) rfl (by decide)]
  rw [zs_aload_n (ls := [some (.ref 17), some (.int x1), none]) zd_20_10 rfl]
  rw [zs_getR (n := 119) (K := zx_pk (zK L) 119) (ρ := zR) (c := 7) (k := 0) (q := 17) (p := 4) zd_20_11 rfl rfl rfl (by decide) rfl]
  obtain ⟨r1, hr1, H⟩ := Option.bind_eq_some_iff.mp H
  rw [zp_callVv (st := [.ref 4]) (as := [.ref 4]) (rest := []) (e := 1) zd_20_14 rfl (by decide +kernel) (by decide) rfl rfl (Nat.le_of_ble_eq_true rfl) (zx_rcb_ok rfl (show 4 < 119 by decide)) (Nat.le_of_ble_eq_true rfl) rfl (by decide) (zt_Program_clear hr1)]
  rw [zs_aload_n (ls := [some (.ref 17), some (.int x1), none]) zd_20_17 rfl]
  rw [zs_getR (n := 119) (K := zx_pk (zK L) 119) (ρ := zR) (c := 7) (k := 2) (q := 17) (p := 18) zd_20_18 rfl rfl rfl (by decide) rfl]
  obtain ⟨r2, hr2, H⟩ := Option.bind_eq_some_iff.mp H
  rw [zp_callVv (st := [.ref 18]) (as := [.ref 18]) (rest := []) (e := 0) zd_20_21 rfl (by decide +kernel) (by decide) rfl rfl (Nat.le_of_ble_eq_true rfl) (zx_rcb_ok rfl (show 18 < 119 by decide)) (Nat.le_of_ble_eq_true rfl) rfl (by decide) (zt_Names_clear hr2)]
  rw [zs_aload_n (ls := [some (.ref 17), some (.int x1), none]) zd_20_24 rfl]
  rw [zs_getR (n := 119) (K := zx_pk (zK L) 119) (ρ := zR) (c := 7) (k := 3) (q := 17) (p := 29) zd_20_25 rfl rfl rfl (by decide) rfl]
  rw [zs_iconst (z := 0) zd_20_28 (by decide)]
  obtain ⟨r3, hr3, H⟩ := Option.bind_eq_some_iff.mp H
  rw [zp_callVv (st := [.int 0, .ref 29]) (as := [.ref 29, .int 0]) (rest := []) (e := 0) zd_20_29 rfl (by decide +kernel) (by decide) rfl rfl (Nat.le_of_ble_eq_true rfl) (zx_rcb_ok rfl (show 29 < 119 by decide)) (Nat.le_of_ble_eq_true rfl) rfl (by decide) (zt_Weaver_beginThread hr3)]
  rw [zs_aload_n (ls := [some (.ref 17), some (.int x1), none]) zd_20_32 rfl]
  rw [zs_getR (n := 119) (K := zx_pk (zK L) 119) (ρ := zR) (c := 7) (k := 1) (q := 17) (p := 25) zd_20_33 rfl rfl rfl (by decide) rfl]
  rw [zs_iload_n (ls := [some (.ref 17), some (.int x1), none]) zd_20_36 rfl]
  obtain ⟨r4, hr4, H⟩ := Option.bind_eq_some_iff.mp H
  rw [zp_callVv (st := [.int x1, .ref 25]) (as := [.ref 25, .int x1]) (rest := []) (e := 3) zd_20_37 rfl (by decide +kernel) (by decide) rfl rfl (Nat.le_of_ble_eq_true rfl) (zx_rcb_ok rfl (show 25 < 119 by decide)) (Nat.le_of_ble_eq_true rfl) rfl (by decide) (zt_Tokens_scan hr4)]
  rw [zs_iconst (z := 0) zd_20_40 (by decide)]
  rw [zs_istore_n (x := 0) (ls' := [some (.ref 17), some (.int x1), some (.int 0)]) zd_20_41 (Nat.le_of_ble_eq_true rfl) rfl]
  exact zt_Reader_readText_42  H
set_option maxRecDepth 20000 in
theorem zt_Judge_forget {a b L : Nat} {σ : zS} {τ : zT} {r : zS} (H : zf_Judge_forget σ = some r) : zx_go 0 84 0 [some (.ref 76)] [] ((119, a, b), zx_pk (zK L) 119, σ, τ, zR) = some (none, ((119, a, b), zx_pk (zK L) 119, r, τ, zR)) := by
  unfold zf_Judge_forget at H
  rw [zs_aload_n (ls := [some (.ref 76)]) zd_84_0 rfl]
  rw [zs_iconst (z := 0) zd_84_1 (by decide)]
  rw [zs_putZ (n := 119) (K := zx_pk (zK L) 119) (c := 1) (k := 5) (q := 76) (x := 0) zd_84_2 rfl rfl (by decide +kernel) rfl (by decide) rfl]
  have H := Option.some.inj H
  subst H
  exact zs_return zd_84_5 (by decide +kernel)
set_option maxRecDepth 20000 in
theorem zt_Arrays_fill_c2_5 {a b L N : Nat} : ∀ {n : Nat} {σ : zS} {τ : zT} {v1 : Int32} {v2 : Int32} {v3 : Int32} {r : zS}, zb_Arrays_fill_c2_5 N n σ v1 v2 v3 = some r → zx_go 0 22 5 [some (.ref 75), some (.int v1), some (.int v2), some (.int v3)] [] ((119, a, b), zx_pk (zK L) 119, σ, τ, zR) = some (none, ((119, a, b), zx_pk (zK L) 119, r, τ, zR)) := by
  intro n
  induction n with
  | zero =>
    intro _ _ _ _ _ _ H
    cases H
  | succ n ih =>
    intro σ τ v1 v2 v3 r H
    rw [zb_Arrays_fill_c2_5] at H
    rw [zs_iload_n (ls := [some (.ref 75), some (.int v1), some (.int v2), some (.int v3)]) zd_22_5 rfl]
    rw [zs_iload_n (ls := [some (.ref 75), some (.int v1), some (.int v2), some (.int v3)]) zd_22_6 rfl]
    by_cases c1 : v3 ≤ v2
    · rw [if_pos c1] at H
      rw [zp_icmp_ge_t (x := v2) (y := v3) (t := 20) zd_22_7 rfl c1]
      have H := Option.some.inj H
      subst H
      exact zs_return zd_22_20 (by decide +kernel)
    · rw [if_neg c1] at H
      rw [zp_icmp_ge_f (x := v2) (y := v3) (t := 20) zd_22_7 rfl c1]
      rw [zs_aload_n (ls := [some (.ref 75), some (.int v1), some (.int v2), some (.int v3)]) zd_22_10 rfl]
      rw [zs_iload_n (ls := [some (.ref 75), some (.int v1), some (.int v2), some (.int v3)]) zd_22_11 rfl]
      rw [zs_iload_n (ls := [some (.ref 75), some (.int v1), some (.int v2), some (.int v3)]) zd_22_12 rfl]
      by_cases c2 : 0 ≤ v2 ∧ v2 < 6
      · rw [if_pos c2] at H
        rw [zp_iastore (n := 119) (K := zx_pk (zK L) 119) (q := 75) (m := 6) (i := v2) (k := v2.toNatClampNeg) (x := v1) (z := v1) zd_22_13 rfl ⟨by decide, by decide⟩ (zJ_in c2 rfl) rfl rfl]
        rw [zs_iinc (ls := [some (.ref 75), some (.int v1), some (.int v2), some (.int v3)]) (x := v2) (z := (v2 + 1)) (ls' := [some (.ref 75), some (.int v1), some (.int (v2 + 1)), some (.int v3)]) zd_22_14 rfl rfl rfl]
        rw [zs_goto (t := 5) zd_22_17 rfl]
        exact ih H
      · rw [if_neg c2] at H
        cases H
set_option maxRecDepth 20000 in
theorem zt_Arrays_fill_c2 {a b L N : Nat} {σ : zS} {τ : zT} {x2 : Int32} {r : zS} (H : zf_Arrays_fill_c2 N σ x2 = some r) : zx_go 0 22 0 [some (.ref 75), some (.int x2), none, none] [] ((119, a, b), zx_pk (zK L) 119, σ, τ, zR) = some (none, ((119, a, b), zx_pk (zK L) 119, r, τ, zR)) := by
  unfold zf_Arrays_fill_c2 at H
  rw [zs_iconst (z := 0) zd_22_0 (by decide)]
  rw [zs_istore_n (x := 0) (ls' := [some (.ref 75), some (.int x2), some (.int 0), none]) zd_22_1 (Nat.le_of_ble_eq_true rfl) rfl]
  rw [zs_aload_n (ls := [some (.ref 75), some (.int x2), some (.int 0), none]) zd_22_2 rfl]
  rw [zs_arraylength (n := 119) (K := zx_pk (zK L) 119) (q := 75) (m := 6) (z := 6) zd_22_3 rfl (by decide) (by decide)]
  rw [zs_istore_n (x := 6) (ls' := [some (.ref 75), some (.int x2), some (.int 0), some (.int 6)]) zd_22_4 (Nat.le_of_ble_eq_true rfl) rfl]
  exact zt_Arrays_fill_c2_5  H
set_option maxRecDepth 20000 in
theorem zt_X_read_40 {a b L N : Nat} {σ : zS} {τ : zT} {s0 : Int32} {r : Int32 × zS × zT} (H : zb_X_read_40 N σ τ s0 = some r) : zx_go 7 19 40 [some (.ref 2)] [.int s0, .ref 2] ((119, a, b), zx_pk (zK L) 119, σ, τ, zR) = some (some (.int r.1), ((119, a, b), zx_pk (zK L) 119, r.2.1, r.2.2, zR)) := by
  unfold zb_X_read_40 at H
  by_cases c3 : s0 = 0 ∨ s0 = 1
  · rw [if_pos c3] at H
    rw [zs_putZ (n := 119) (K := zx_pk (zK L) 119) (c := 11) (k := 13) (q := 2) (x := s0) zd_19_40 rfl rfl (by decide +kernel) rfl (by decide) (zJ_bt c3)]
    rw [zs_aload_n (ls := [some (.ref 2)]) zd_19_43 rfl]
    rw [zs_iconst (z := 0) zd_19_44 (by decide)]
    rw [zs_putZ (n := 119) (K := zx_pk (zK L) 119) (c := 11) (k := 14) (q := 2) (x := 0) zd_19_45 rfl rfl (by decide +kernel) rfl (by decide) rfl]
    rw [zs_aload_n (ls := [some (.ref 2)]) zd_19_48 rfl]
    rw [zs_iconst (z := 0) zd_19_49 (by decide)]
    rw [zs_putZ (n := 119) (K := zx_pk (zK L) 119) (c := 11) (k := 15) (q := 2) (x := 0) zd_19_50 rfl rfl (by decide +kernel) rfl (by decide) rfl]
    rw [zs_aload_n (ls := [some (.ref 2)]) zd_19_53 rfl]
    rw [zs_iconst (z := (-1)) zd_19_54 (by decide)]
    rw [zs_putI (n := 119) (K := zx_pk (zK L) 119) (c := 11) (k := 16) (q := 2) (x := (-1)) zd_19_55 rfl rfl (by decide +kernel) rfl (by decide)]
    rw [zs_aload_n (ls := [some (.ref 2)]) zd_19_58 rfl]
    rw [zs_getR (n := 119) (K := zx_pk (zK L) 119) (ρ := zR) (c := 11) (k := 9) (q := 2) (p := 76) zd_19_59 rfl rfl rfl (by decide) rfl]
    obtain ⟨r4, hr4, H⟩ := Option.bind_eq_some_iff.mp H
    rw [zp_callVv (st := [.ref 76]) (as := [.ref 76]) (rest := []) (e := 0) zd_19_62 rfl (by decide +kernel) (by decide) rfl rfl (Nat.le_of_ble_eq_true rfl) (zx_rcb_ok rfl (show 76 < 119 by decide)) (Nat.le_of_ble_eq_true rfl) rfl (by decide) (zt_Judge_forget hr4)]
    rw [zs_aload_n (ls := [some (.ref 2)]) zd_19_65 rfl]
    rw [zs_getR (n := 119) (K := zx_pk (zK L) 119) (ρ := zR) (c := 11) (k := 8) (q := 2) (p := 75) zd_19_66 rfl rfl rfl (by decide) rfl]
    rw [zs_iconst (z := (-1)) zd_19_69 (by decide)]
    obtain ⟨r5, hr5, H⟩ := Option.bind_eq_some_iff.mp H
    rw [zp_callSv (st := [.int (-1), .ref 75]) (as := [.ref 75, .int (-1)]) (rest := []) (e := 0) zd_19_70 rfl (by decide +kernel) (by decide) rfl rfl (Nat.le_of_ble_eq_true rfl) rfl (Nat.le_of_ble_eq_true rfl) rfl (by decide) (zt_Arrays_fill_c2 hr5)]
    rw [zs_aload_n (ls := [some (.ref 2)]) zd_19_73 rfl]
    rw [zp_getZ (n := 119) (K := zx_pk (zK L) 119) (σ := r5) (c := 11) (k := 13) (q := 2) (v := (r5 2 13)) zd_19_74 rfl rfl rfl (by decide) rfl]
    by_cases c6 : (r5 2 13) = 0
    · rw [if_pos c6] at H
      rw [zp_if_eq_t (x := (r5 2 13)) (t := 90) zd_19_77 rfl c6]
      rw [zs_sipush (z := (-1000)) zd_19_90 (by decide)]
      rw [zs_aload_n (ls := [some (.ref 2)]) zd_19_93 rfl]
      rw [zs_getR (n := 119) (K := zx_pk (zK L) 119) (ρ := zR) (c := 11) (k := 2) (q := 2) (p := 17) zd_19_94 rfl rfl rfl (by decide) rfl]
      rw [zp_getI (n := 119) (K := zx_pk (zK L) 119) (σ := r5) (c := 7) (k := 7) (q := 17) (v := (r5 17 7)) zd_19_97 rfl rfl rfl (by decide) rfl]
      rw [zp_isub (x := (-1000)) (y := (r5 17 7)) (z := ((-1000) - (r5 17 7))) zd_19_100 rfl]
      have H := Option.some.inj H
      subst H
      exact zs_ireturn zd_19_101 rfl
    · rw [if_neg c6] at H
      rw [zp_if_eq_f (x := (r5 2 13)) (t := 90) zd_19_77 rfl c6]
      rw [zs_aload_n (ls := [some (.ref 2)]) zd_19_80 rfl]
      rw [zs_getR (n := 119) (K := zx_pk (zK L) 119) (ρ := zR) (c := 11) (k := 1) (q := 2) (p := 4) zd_19_81 rfl rfl rfl (by decide) rfl]
      rw [zp_getI (n := 119) (K := zx_pk (zK L) 119) (σ := r5) (c := 6) (k := 4) (q := 4) (v := (r5 4 4)) zd_19_84 rfl rfl rfl (by decide) rfl]
      rw [zs_goto (t := 101) zd_19_87 rfl]
      have H := Option.some.inj H
      subst H
      exact zs_ireturn zd_19_101 rfl
  · rw [if_neg c3] at H
    cases H
set_option maxRecDepth 20000 in
theorem zt_X_read {a b L N : Nat} {σ : zS} {τ : zT} {r : Int32 × zS × zT} (H : zf_X_read N σ τ = some r) : zx_go 7 19 0 [some (.ref 2)] [] ((119, a, b), zx_pk (zK L) 119, σ, τ, zR) = some (some (.int r.1), ((119, a, b), zx_pk (zK L) 119, r.2.1, r.2.2, zR)) := by
  unfold zf_X_read at H
  rw [zs_aload_n (ls := [some (.ref 2)]) zd_19_0 rfl]
  rw [zs_getR (n := 119) (K := zx_pk (zK L) 119) (ρ := zR) (c := 11) (k := 2) (q := 2) (p := 17) zd_19_1 rfl rfl rfl (by decide) rfl]
  rw [zs_aload_n (ls := [some (.ref 2)]) zd_19_4 rfl]
  rw [zp_getI (n := 119) (K := zx_pk (zK L) 119) (σ := σ) (c := 11) (k := 11) (q := 2) (v := (σ 2 11)) zd_19_5 rfl rfl rfl (by decide) rfl]
  obtain ⟨r1, hr1, H⟩ := Option.bind_eq_some_iff.mp H
  rw [zp_callVv (st := [.int (σ 2 11), .ref 17]) (as := [.ref 17, .int (σ 2 11)]) (rest := []) (e := 6) zd_19_8 rfl (by decide +kernel) (by decide) rfl rfl (Nat.le_of_ble_eq_true rfl) (zx_rcb_ok rfl (show 17 < 119 by decide)) (Nat.le_of_ble_eq_true rfl) rfl (by decide) (zt_Reader_readText hr1)]
  rw [zs_aload_n (ls := [some (.ref 2)]) zd_19_11 rfl]
  rw [zs_iconst (z := 0) zd_19_12 (by decide)]
  rw [zs_putI (n := 119) (K := zx_pk (zK L) 119) (c := 11) (k := 11) (q := 2) (x := 0) zd_19_13 rfl rfl (by decide +kernel) rfl (by decide)]
  rw [zs_aload_n (ls := [some (.ref 2)]) zd_19_16 rfl]
  rw [zs_aload_n (ls := [some (.ref 2)]) zd_19_17 rfl]
  rw [zs_getR (n := 119) (K := zx_pk (zK L) 119) (ρ := zR) (c := 11) (k := 2) (q := 2) (p := 17) zd_19_18 rfl rfl rfl (by decide) rfl]
  rw [zp_getI (n := 119) (K := zx_pk (zK L) 119) (σ := (zx_up r1.1 2 11 0)) (c := 7) (k := 6) (q := 17) (v := (r1.1 17 6)) zd_19_21 rfl rfl rfl (by decide) (show ((zx_up r1.1 2 11 0) : zS) 17 6 = (r1.1 17 6) from ((zx_up_ne (by decide)).trans rfl))]
  rw [zs_putI (n := 119) (K := zx_pk (zK L) 119) (c := 11) (k := 12) (q := 2) (x := (r1.1 17 6)) zd_19_24 rfl rfl (by decide +kernel) rfl (by decide)]
  rw [zs_aload_n (ls := [some (.ref 2)]) zd_19_27 rfl]
  rw [zs_aload_n (ls := [some (.ref 2)]) zd_19_28 rfl]
  rw [zp_getI (n := 119) (K := zx_pk (zK L) 119) (σ := (zx_up (zx_up r1.1 2 11 0) 2 12 (r1.1 17 6))) (c := 11) (k := 12) (q := 2) (v := (r1.1 17 6)) zd_19_29 rfl rfl rfl (by decide) (show ((zx_up (zx_up r1.1 2 11 0) 2 12 (r1.1 17 6)) : zS) 2 12 = (r1.1 17 6) from zx_up_at)]
  by_cases c2 : ¬ (r1.1 17 6) = 0
  · rw [if_pos c2] at H
    rw [zp_if_ne_t (x := (r1.1 17 6)) (t := 39) zd_19_32 rfl c2]
    rw [zs_iconst (z := 0) zd_19_39 (by decide)]
    exact zt_X_read_40  H
  · rw [if_neg c2] at H
    rw [zp_if_ne_f (x := (r1.1 17 6)) (t := 39) zd_19_32 rfl c2]
    rw [zs_iconst (z := 1) zd_19_35 (by decide)]
    rw [zs_goto (t := 40) zd_19_36 rfl]
    exact zt_X_read_40  H
