/-! theorems of the functions, by program -/
set_option maxRecDepth 20000 in
theorem zt_M_isOutcome_50 {a b L N : Nat} {k5 : zS → Int32 → Int32 → Int32 → Int32 → Option (Int32)} (hk5 : ∀ {σ : zS} {τ : zT} {v1 : Int32} {v2 : Int32} {v3 : Int32} {v4 : Int32} {o5 : Option Value} {o6 : Option Value} {o7 : Option Value} {o8 : Option Value} {r : Int32}, k5 σ v1 v2 v3 v4 = some r → zx_go 1 193 5 [some (.ref 82), some (.int v1), some (.int v2), some (.int v3), some (.int v4), o5, o6, o7, o8] [] ((119, a, b), zx_pk (zK L) 119, σ, τ, zR) = some (some (.int r), ((119, a, b), zx_pk (zK L) 119, σ, τ, zR))) {σ : zS} {τ : zT} {v1 : Int32} {v2 : Int32} {v4 : Int32} {s0 : Int32} {o3 : Option Value} {o5 : Option Value} {o6 : Option Value} {o7 : Option Value} {o8 : Option Value} {r : Int32} (H : zb_M_isOutcome_50 k5 N σ v1 v2 v4 s0 = some r) : zx_go 1 193 50 [some (.ref 82), some (.int v1), some (.int v2), o3, some (.int v4), o5, o6, o7, o8] [.int s0] ((119, a, b), zx_pk (zK L) 119, σ, τ, zR) = some (some (.int r), ((119, a, b), zx_pk (zK L) 119, σ, τ, zR)) := by
  unfold zb_M_isOutcome_50 at H
  rw [zs_istore_n (x := s0) (ls' := [some (.ref 82), some (.int v1), some (.int v2), some (.int s0), some (.int v4), o5, o6, o7, o8]) zd_193_50 (Nat.le_of_ble_eq_true rfl) rfl]
  rw [zs_iinc (ls := [some (.ref 82), some (.int v1), some (.int v2), some (.int s0), some (.int v4), o5, o6, o7, o8]) (x := v4) (z := (v4 + 1)) (ls' := [some (.ref 82), some (.int v1), some (.int v2), some (.int s0), some (.int (v4 + 1)), o5, o6, o7, o8]) zd_193_51 rfl rfl rfl]
  rw [zs_goto (t := 5) zd_193_54 rfl]
  exact hk5 H
set_option maxRecDepth 20000 in
theorem zt_M_isOutcome_49 {a b L N : Nat} {k5 : zS → Int32 → Int32 → Int32 → Int32 → Option (Int32)} (hk5 : ∀ {σ : zS} {τ : zT} {v1 : Int32} {v2 : Int32} {v3 : Int32} {v4 : Int32} {o5 : Option Value} {o6 : Option Value} {o7 : Option Value} {o8 : Option Value} {r : Int32}, k5 σ v1 v2 v3 v4 = some r → zx_go 1 193 5 [some (.ref 82), some (.int v1), some (.int v2), some (.int v3), some (.int v4), o5, o6, o7, o8] [] ((119, a, b), zx_pk (zK L) 119, σ, τ, zR) = some (some (.int r), ((119, a, b), zx_pk (zK L) 119, σ, τ, zR))) {σ : zS} {τ : zT} {v1 : Int32} {v2 : Int32} {v4 : Int32} {o3 : Option Value} {o5 : Option Value} {o6 : Option Value} {o7 : Option Value} {o8 : Option Value} {r : Int32} (H : zb_M_isOutcome_49 k5 N σ v1 v2 v4 = some r) : zx_go 1 193 49 [some (.ref 82), some (.int v1), some (.int v2), o3, some (.int v4), o5, o6, o7, o8] [] ((119, a, b), zx_pk (zK L) 119, σ, τ, zR) = some (some (.int r), ((119, a, b), zx_pk (zK L) 119, σ, τ, zR)) := by
  unfold zb_M_isOutcome_49 at H
  rw [zs_iconst (z := 0) zd_193_49 (by decide)]
  exact zt_M_isOutcome_50 (hk5 := hk5) H
set_option maxRecDepth 20000 in
theorem zt_M_isOutcome_5 {a b L N : Nat} : ∀ {n : Nat} {σ : zS} {τ : zT} {v1 : Int32} {v2 : Int32} {v3 : Int32} {v4 : Int32} {o5 : Option Value} {o6 : Option Value} {o7 : Option Value} {o8 : Option Value} {r : Int32}, zb_M_isOutcome_5 N n σ v1 v2 v3 v4 = some r → zx_go 1 193 5 [some (.ref 82), some (.int v1), some (.int v2), some (.int v3), some (.int v4), o5, o6, o7, o8] [] ((119, a, b), zx_pk (zK L) 119, σ, τ, zR) = some (some (.int r), ((119, a, b), zx_pk (zK L) 119, σ, τ, zR)) := by
  intro n
  induction n with
  | zero =>
    intro _ _ _ _ _ _ _ _ _ _ _ H
    cases H
  | succ n ih =>
    intro σ τ v1 v2 v3 v4 o5 o6 o7 o8 r H
    rw [zb_M_isOutcome_5] at H
    rw [zs_iload (ls := [some (.ref 82), some (.int v1), some (.int v2), some (.int v3), some (.int v4), o5, o6, o7, o8]) zd_193_5 rfl]
    rw [zs_aload_n (ls := [some (.ref 82), some (.int v1), some (.int v2), some (.int v3), some (.int v4), o5, o6, o7, o8]) zd_193_7 rfl]
    rw [zp_getI (n := 119) (K := zx_pk (zK L) 119) (σ := σ) (c := 12) (k := 15) (q := 82) (v := (σ 82 15)) zd_193_8 rfl rfl rfl (by decide) rfl]
    by_cases c1 : (σ 82 15) ≤ v4
    · rw [if_pos c1] at H
      rw [zp_icmp_ge_t (x := v4) (y := (σ 82 15)) (t := 57) zd_193_11 rfl c1]
      rw [zs_iconst (z := 0) zd_193_57 (by decide)]
      rw [zs_istore (x := 0) (ls' := [some (.ref 82), some (.int v1), some (.int v2), some (.int v3), some (.int 0), o5, o6, o7, o8]) zd_193_58 (Nat.le_of_ble_eq_true rfl) rfl]
      rw [zs_iconst (z := 0) zd_193_60 (by decide)]
      rw [zs_istore (x := 0) (ls' := [some (.ref 82), some (.int v1), some (.int v2), some (.int v3), some (.int 0), some (.int 0), o6, o7, o8]) zd_193_61 (Nat.le_of_ble_eq_true rfl) rfl]
      rw [zs_iconst (z := 0) zd_193_63 (by decide)]
      rw [zs_istore (x := 0) (ls' := [some (.ref 82), some (.int v1), some (.int v2), some (.int v3), some (.int 0), some (.int 0), some (.int 0), o7, o8]) zd_193_64 (Nat.le_of_ble_eq_true rfl) rfl]
      exact zt_M_isOutcome_66  H
    · rw [if_neg c1] at H
      rw [zp_icmp_ge_f (x := v4) (y := (σ 82 15)) (t := 57) zd_193_11 rfl c1]
      rw [zs_iload_n (ls := [some (.ref 82), some (.int v1), some (.int v2), some (.int v3), some (.int v4), o5, o6, o7, o8]) zd_193_14 rfl]
      by_cases c21 : v3 = 0
      · rw [if_pos c21] at H
        rw [zp_if_eq_t (x := v3) (t := 49) zd_193_15 rfl c21]
        exact zt_M_isOutcome_49 (hk5 := ih) H
      · rw [if_neg c21] at H
        rw [zp_if_eq_f (x := v3) (t := 49) zd_193_15 rfl c21]
        rw [zs_aload_n (ls := [some (.ref 82), some (.int v1), some (.int v2), some (.int v3), some (.int v4), o5, o6, o7, o8]) zd_193_18 rfl]
        rw [zs_getR (n := 119) (K := zx_pk (zK L) 119) (ρ := zR) (c := 12) (k := 48) (q := 82) (p := 108) zd_193_19 rfl rfl rfl (by decide) rfl]
        rw [zs_bipush (z := 40) zd_193_22 (by decide)]
        rw [zs_iload_n (ls := [some (.ref 82), some (.int v1), some (.int v2), some (.int v3), some (.int v4), o5, o6, o7, o8]) zd_193_24 rfl]
        rw [zp_imul (x := 40) (y := v1) (z := (40 * v1)) zd_193_25 rfl]
        rw [zs_iload (ls := [some (.ref 82), some (.int v1), some (.int v2), some (.int v3), some (.int v4), o5, o6, o7, o8]) zd_193_26 rfl]
        rw [zp_iadd (x := (40 * v1)) (y := v4) (z := ((40 * v1) + v4)) zd_193_28 rfl]
        by_cases c22 : 0 ≤ ((40 * v1) + v4) ∧ ((40 * v1) + v4) < 320000
        · rw [if_pos c22] at H
          rw [zp_baload (n := 119) (K := zx_pk (zK L) 119) (σ := σ) (q := 108) (m := 320000) (i := ((40 * v1) + v4)) (k := ((40 * v1) + v4).toNatClampNeg) (v := (σ 108 ((40 * v1) + v4).toNatClampNeg)) zd_193_29 rfl (by decide) (zJ_in c22 rfl) rfl rfl]
          rw [zs_aload_n (ls := [some (.ref 82), some (.int v1), some (.int v2), some (.int v3), some (.int v4), o5, o6, o7, o8]) zd_193_30 rfl]
          rw [zs_getR (n := 119) (K := zx_pk (zK L) 119) (ρ := zR) (c := 12) (k := 48) (q := 82) (p := 108) zd_193_31 rfl rfl rfl (by decide) rfl]
          rw [zs_bipush (z := 40) zd_193_34 (by decide)]
          rw [zs_iload_n (ls := [some (.ref 82), some (.int v1), some (.int v2), some (.int v3), some (.int v4), o5, o6, o7, o8]) zd_193_36 rfl]
          rw [zp_imul (x := 40) (y := v2) (z := (40 * v2)) zd_193_37 rfl]
          rw [zs_iload (ls := [some (.ref 82), some (.int v1), some (.int v2), some (.int v3), some (.int v4), o5, o6, o7, o8]) zd_193_38 rfl]
          rw [zp_iadd (x := (40 * v2)) (y := v4) (z := ((40 * v2) + v4)) zd_193_40 rfl]
          by_cases c23 : 0 ≤ ((40 * v2) + v4) ∧ ((40 * v2) + v4) < 320000
          · rw [if_pos c23] at H
            rw [zp_baload (n := 119) (K := zx_pk (zK L) 119) (σ := σ) (q := 108) (m := 320000) (i := ((40 * v2) + v4)) (k := ((40 * v2) + v4).toNatClampNeg) (v := (σ 108 ((40 * v2) + v4).toNatClampNeg)) zd_193_41 rfl (by decide) (zJ_in c23 rfl) rfl rfl]
            by_cases c24 : ¬ (σ 108 ((40 * v1) + v4).toNatClampNeg) = (σ 108 ((40 * v2) + v4).toNatClampNeg)
            · rw [if_pos c24] at H
              rw [zp_icmp_ne_t (x := (σ 108 ((40 * v1) + v4).toNatClampNeg)) (y := (σ 108 ((40 * v2) + v4).toNatClampNeg)) (t := 49) zd_193_42 rfl c24]
              exact zt_M_isOutcome_49 (hk5 := ih) H
            · rw [if_neg c24] at H
              rw [zp_icmp_ne_f (x := (σ 108 ((40 * v1) + v4).toNatClampNeg)) (y := (σ 108 ((40 * v2) + v4).toNatClampNeg)) (t := 49) zd_193_42 rfl c24]
              rw [zs_iconst (z := 1) zd_193_45 (by decide)]
              rw [zs_goto (t := 50) zd_193_46 rfl]
              exact zt_M_isOutcome_50 (hk5 := ih) H
          · rw [if_neg c23] at H
            cases H
        · rw [if_neg c22] at H
          cases H
set_option maxRecDepth 20000 in
theorem zt_M_isOutcome {a b L N : Nat} {σ : zS} {τ : zT} {x1 : Int32} {x2 : Int32} {r : Int32} (H : zf_M_isOutcome N σ x1 x2 = some r) : zx_go 1 193 0 [some (.ref 82), some (.int x1), some (.int x2), none, none, none, none, none, none] [] ((119, a, b), zx_pk (zK L) 119, σ, τ, zR) = some (some (.int r), ((119, a, b), zx_pk (zK L) 119, σ, τ, zR)) := by
  unfold zf_M_isOutcome at H
  rw [zs_iconst (z := 1) zd_193_0 (by decide)]
  rw [zs_istore_n (x := 1) (ls' := [some (.ref 82), some (.int x1), some (.int x2), some (.int 1), none, none, none, none, none]) zd_193_1 (Nat.le_of_ble_eq_true rfl) rfl]
  rw [zs_iconst (z := 0) zd_193_2 (by decide)]
  rw [zs_istore (x := 0) (ls' := [some (.ref 82), some (.int x1), some (.int x2), some (.int 1), some (.int 0), none, none, none, none]) zd_193_3 (Nat.le_of_ble_eq_true rfl) rfl]
  exact zt_M_isOutcome_5  H
set_option maxRecDepth 20000 in
theorem zt_M_lastKind_32 {a b L N : Nat} {k2 : zS → Int32 → Option (Int32)} (hk2 : ∀ {σ : zS} {τ : zT} {v1 : Int32} {o2 : Option Value} {r : Int32}, k2 σ v1 = some r → zx_go 2 192 2 [some (.ref 82), some (.int v1), o2] [] ((119, a, b), zx_pk (zK L) 119, σ, τ, zR) = some (some (.int r), ((119, a, b), zx_pk (zK L) 119, σ, τ, zR))) {σ : zS} {τ : zT} {v1 : Int32} {o2 : Option Value} {r : Int32} (H : zb_M_lastKind_32 k2 N σ v1 = some r) : zx_go 2 192 32 [some (.ref 82), some (.int v1), o2] [] ((119, a, b), zx_pk (zK L) 119, σ, τ, zR) = some (some (.int r), ((119, a, b), zx_pk (zK L) 119, σ, τ, zR)) := by
  unfold zb_M_lastKind_32 at H
  rw [zs_iinc (ls := [some (.ref 82), some (.int v1), o2]) (x := v1) (z := (v1 + 1)) (ls' := [some (.ref 82), some (.int (v1 + 1)), o2]) zd_192_32 rfl rfl rfl]
  rw [zs_goto (t := 2) zd_192_35 rfl]
  exact hk2 H
set_option maxRecDepth 20000 in
theorem zt_M_lastKind_2 {a b L N : Nat} : ∀ {n : Nat} {σ : zS} {τ : zT} {v1 : Int32} {o2 : Option Value} {r : Int32}, zb_M_lastKind_2 N n σ v1 = some r → zx_go 2 192 2 [some (.ref 82), some (.int v1), o2] [] ((119, a, b), zx_pk (zK L) 119, σ, τ, zR) = some (some (.int r), ((119, a, b), zx_pk (zK L) 119, σ, τ, zR)) := by
  intro n
  induction n with
  | zero =>
    intro _ _ _ _ _ H
    cases H
  | succ n ih =>
    intro σ τ v1 o2 r H
    rw [zb_M_lastKind_2] at H
    rw [zs_iload_n (ls := [some (.ref 82), some (.int v1), o2]) zd_192_2 rfl]
    rw [zs_aload_n (ls := [some (.ref 82), some (.int v1), o2]) zd_192_3 rfl]
    rw [zp_getI (n := 119) (K := zx_pk (zK L) 119) (σ := σ) (c := 12) (k := 17) (q := 82) (v := (σ 82 17)) zd_192_4 rfl rfl rfl (by decide) rfl]
    by_cases c1 : (σ 82 17) ≤ v1
    · rw [if_pos c1] at H
      rw [zp_icmp_ge_t (x := v1) (y := (σ 82 17)) (t := 38) zd_192_7 rfl c1]
      rw [zs_iconst (z := 1) zd_192_38 (by decide)]
      have H := Option.some.inj H
      subst H
      exact zs_ireturn zd_192_39 (by decide +kernel)
    · rw [if_neg c1] at H
      rw [zp_icmp_ge_f (x := v1) (y := (σ 82 17)) (t := 38) zd_192_7 rfl c1]
      rw [zs_aload_n (ls := [some (.ref 82), some (.int v1), o2]) zd_192_10 rfl]
      rw [zs_iload_n (ls := [some (.ref 82), some (.int v1), o2]) zd_192_11 rfl]
      obtain ⟨r2, hr2, H⟩ := Option.bind_eq_some_iff.mp H
      rw [zp_callVi (x := r2) (st := [.int v1, .ref 82]) (as := [.ref 82, .int v1]) (rest := []) (e := 1) zd_192_12 rfl (by decide +kernel) (by decide) rfl rfl (Nat.le_of_ble_eq_true rfl) (zx_rcb_ok rfl (show 82 < 119 by decide)) (Nat.le_of_ble_eq_true rfl) rfl (by decide) (zt_M_stateOf hr2)]
      rw [zs_istore_n (x := r2) (ls' := [some (.ref 82), some (.int v1), some (.int r2)]) zd_192_15 (Nat.le_of_ble_eq_true rfl) rfl]
      rw [zs_iload_n (ls := [some (.ref 82), some (.int v1), some (.int r2)]) zd_192_16 rfl]
      rw [zs_iconst (z := 4) zd_192_17 (by decide)]
      by_cases c3 : r2 = 4
      · rw [if_pos c3] at H
        rw [zp_icmp_eq_t (x := r2) (y := 4) (t := 32) zd_192_18 rfl c3]
        exact zt_M_lastKind_32 (hk2 := ih) H
      · rw [if_neg c3] at H
        rw [zp_icmp_eq_f (x := r2) (y := 4) (t := 32) zd_192_18 rfl c3]
        rw [zs_iload_n (ls := [some (.ref 82), some (.int v1), some (.int r2)]) zd_192_21 rfl]
        rw [zs_iconst (z := 5) zd_192_22 (by decide)]
        by_cases c4 : r2 = 5
        · rw [if_pos c4] at H
          rw [zp_icmp_eq_t (x := r2) (y := 5) (t := 32) zd_192_23 rfl c4]
          exact zt_M_lastKind_32 (hk2 := ih) H
        · rw [if_neg c4] at H
          rw [zp_icmp_eq_f (x := r2) (y := 5) (t := 32) zd_192_23 rfl c4]
          rw [zs_iload_n (ls := [some (.ref 82), some (.int v1), some (.int r2)]) zd_192_26 rfl]
          by_cases c5 : r2 = 0
          · rw [if_pos c5] at H
            rw [zp_if_eq_t (x := r2) (t := 32) zd_192_27 rfl c5]
            exact zt_M_lastKind_32 (hk2 := ih) H
          · rw [if_neg c5] at H
            rw [zp_if_eq_f (x := r2) (t := 32) zd_192_27 rfl c5]
            rw [zs_iconst (z := 2) zd_192_30 (by decide)]
            have H := Option.some.inj H
            subst H
            exact zs_ireturn zd_192_31 (by decide +kernel)
set_option maxRecDepth 20000 in
theorem zt_M_lastKind {a b L N : Nat} {σ : zS} {τ : zT} {r : Int32} (H : zf_M_lastKind N σ = some r) : zx_go 2 192 0 [some (.ref 82), none, none] [] ((119, a, b), zx_pk (zK L) 119, σ, τ, zR) = some (some (.int r), ((119, a, b), zx_pk (zK L) 119, σ, τ, zR)) := by
  unfold zf_M_lastKind at H
  rw [zs_iconst (z := 0) zd_192_0 (by decide)]
  rw [zs_istore_n (x := 0) (ls' := [some (.ref 82), some (.int 0), none]) zd_192_1 (Nat.le_of_ble_eq_true rfl) rfl]
  exact zt_M_lastKind_2  H
set_option maxRecDepth 20000 in
theorem zt_M_canStep_141 {a b L : Nat} {σ : zS} {τ : zT} {o0 : Option Value} {o1 : Option Value} {o2 : Option Value} {o3 : Option Value} {o4 : Option Value} {r : Int32} (H : zb_M_canStep_141 σ = some r) : zx_go 2 186 141 [o0, o1, o2, o3, o4] [] ((119, a, b), zx_pk (zK L) 119, σ, τ, zR) = some (some (.int r), ((119, a, b), zx_pk (zK L) 119, σ, τ, zR)) := by
  unfold zb_M_canStep_141 at H
  rw [zs_iconst (z := 1) zd_186_141 (by decide)]
  rw [zs_goto (t := 146) zd_186_142 rfl]
  have H := Option.some.inj H
  subst H
  exact zs_ireturn zd_186_146 (by decide +kernel)
set_option maxRecDepth 20000 in
theorem zt_M_canStep_96 {a b L : Nat} {σ : zS} {τ : zT} {o0 : Option Value} {o1 : Option Value} {o2 : Option Value} {o3 : Option Value} {o4 : Option Value} {r : Int32} (H : zb_M_canStep_96 σ = some r) : zx_go 2 186 96 [o0, o1, o2, o3, o4] [] ((119, a, b), zx_pk (zK L) 119, σ, τ, zR) = some (some (.int r), ((119, a, b), zx_pk (zK L) 119, σ, τ, zR)) := by
  unfold zb_M_canStep_96 at H
  rw [zs_iconst (z := 1) zd_186_96 (by decide)]
  rw [zs_goto (t := 101) zd_186_97 rfl]
  have H := Option.some.inj H
  subst H
  exact zs_ireturn zd_186_101 (by decide +kernel)
set_option maxRecDepth 20000 in
theorem zt_M_canStep {a b L : Nat} {σ : zS} {τ : zT} {x1 : Int32} {r : Int32} (H : zf_M_canStep σ x1 = some r) : zx_go 2 186 0 [some (.ref 82), some (.int x1), none, none, none] [] ((119, a, b), zx_pk (zK L) 119, σ, τ, zR) = some (some (.int r), ((119, a, b), zx_pk (zK L) 119, σ, τ, zR)) := by
  unfold zf_M_canStep at H
  rw [zs_aload_n (ls := [some (.ref 82), some (.int x1), none, none, none]) zd_186_0 rfl]
  rw [zs_iload_n (ls := [some (.ref 82), some (.int x1), none, none, none]) zd_186_1 rfl]
  obtain ⟨r1, hr1, H⟩ := Option.bind_eq_some_iff.mp H
  rw [zp_callVi (x := r1) (st := [.int x1, .ref 82]) (as := [.ref 82, .int x1]) (rest := []) (e := 1) zd_186_2 rfl (by decide +kernel) (by decide) rfl rfl (Nat.le_of_ble_eq_true rfl) (zx_rcb_ok rfl (show 82 < 119 by decide)) (Nat.le_of_ble_eq_true rfl) rfl (by decide) (zt_M_stateOf hr1)]
  rw [zs_istore_n (x := r1) (ls' := [some (.ref 82), some (.int x1), some (.int r1), none, none]) zd_186_5 (Nat.le_of_ble_eq_true rfl) rfl]
  rw [zs_bipush (z := 24) zd_186_6 (by decide)]
  rw [zs_iload_n (ls := [some (.ref 82), some (.int x1), some (.int r1), none, none]) zd_186_8 rfl]
  rw [zp_imul (x := 24) (y := x1) (z := (24 * x1)) zd_186_9 rfl]
  rw [zs_aload_n (ls := [some (.ref 82), some (.int x1), some (.int r1), none, none]) zd_186_10 rfl]
  rw [zs_getR (n := 119) (K := zx_pk (zK L) 119) (ρ := zR) (c := 12) (k := 47) (q := 82) (p := 107) zd_186_11 rfl rfl rfl (by decide) rfl]
  rw [zs_aload_n (ls := [some (.ref 82), some (.int x1), some (.int r1), none, none]) zd_186_14 rfl]
  rw [zs_iload_n (ls := [some (.ref 82), some (.int x1), some (.int r1), none, none]) zd_186_15 rfl]
  obtain ⟨r2, hr2, H⟩ := Option.bind_eq_some_iff.mp H
  rw [zp_callVi (x := r2) (st := [.int x1, .ref 82, .ref 107, .int (24 * x1)]) (as := [.ref 82, .int x1]) (rest := [.ref 107, .int (24 * x1)]) (e := 0) zd_186_16 rfl (by decide +kernel) (by decide) rfl rfl (Nat.le_of_ble_eq_true rfl) (zx_rcb_ok rfl (show 82 < 119 by decide)) (Nat.le_of_ble_eq_true rfl) rfl (by decide) (zt_M_at hr2)]
  by_cases c3 : 0 ≤ r2 ∧ r2 < 40
  · rw [if_pos c3] at H
    rw [zp_iaload (n := 119) (K := zx_pk (zK L) 119) (σ := σ) (q := 107) (m := 40) (i := r2) (k := r2.toNatClampNeg) (v := (σ 107 r2.toNatClampNeg)) zd_186_19 rfl (by decide) (zJ_in c3 rfl) rfl rfl]
    rw [zp_iadd (x := (24 * x1)) (y := (σ 107 r2.toNatClampNeg)) (z := ((24 * x1) + (σ 107 r2.toNatClampNeg))) zd_186_20 rfl]
    rw [zs_istore_n (x := ((24 * x1) + (σ 107 r2.toNatClampNeg))) (ls' := [some (.ref 82), some (.int x1), some (.int r1), some (.int ((24 * x1) + (σ 107 r2.toNatClampNeg))), none]) zd_186_21 (Nat.le_of_ble_eq_true rfl) rfl]
    rw [zs_iload_n (ls := [some (.ref 82), some (.int x1), some (.int r1), some (.int ((24 * x1) + (σ 107 r2.toNatClampNeg))), none]) zd_186_22 rfl]
    rw [zs_iconst (z := 3) zd_186_23 (by decide)]
    by_cases c4 : ¬ r1 = 3
    · rw [if_pos c4] at H
      rw [zp_icmp_ne_t (x := r1) (y := 3) (t := 50) zd_186_24 rfl c4]
      rw [zs_iload_n (ls := [some (.ref 82), some (.int x1), some (.int r1), some (.int ((24 * x1) + (σ 107 r2.toNatClampNeg))), none]) zd_186_50 rfl]
      rw [zs_iconst (z := 1) zd_186_51 (by decide)]
      by_cases c5 : r1 = 1
      · rw [if_pos c5] at H
        rw [zp_icmp_eq_t (x := r1) (y := 1) (t := 57) zd_186_52 rfl c5]
        rw [zs_aload_n (ls := [some (.ref 82), some (.int x1), some (.int r1), some (.int ((24 * x1) + (σ 107 r2.toNatClampNeg))), none]) zd_186_57 rfl]
        rw [zs_getR (n := 119) (K := zx_pk (zK L) 119) (ρ := zR) (c := 12) (k := 27) (q := 82) (p := 92) zd_186_58 rfl rfl rfl (by decide) rfl]
        rw [zs_iload_n (ls := [some (.ref 82), some (.int x1), some (.int r1), some (.int ((24 * x1) + (σ 107 r2.toNatClampNeg))), none]) zd_186_61 rfl]
        by_cases c6 : 0 ≤ ((24 * x1) + (σ 107 r2.toNatClampNeg)) ∧ ((24 * x1) + (σ 107 r2.toNatClampNeg)) < 96
        · rw [if_pos c6] at H
          rw [zp_iaload (n := 119) (K := zx_pk (zK L) 119) (σ := σ) (q := 92) (m := 96) (i := ((24 * x1) + (σ 107 r2.toNatClampNeg))) (k := ((24 * x1) + (σ 107 r2.toNatClampNeg)).toNatClampNeg) (v := (σ 92 ((24 * x1) + (σ 107 r2.toNatClampNeg)).toNatClampNeg)) zd_186_62 rfl (by decide) (zJ_in c6 rfl) rfl rfl]
          rw [zs_iconst (z := 3) zd_186_63 (by decide)]
          by_cases c7 : ¬ (σ 92 ((24 * x1) + (σ 107 r2.toNatClampNeg)).toNatClampNeg) = 3
          · rw [if_pos c7] at H
            rw [zp_icmp_ne_t (x := (σ 92 ((24 * x1) + (σ 107 r2.toNatClampNeg)).toNatClampNeg)) (y := 3) (t := 102) zd_186_64 rfl c7]
            rw [zs_aload_n (ls := [some (.ref 82), some (.int x1), some (.int r1), some (.int ((24 * x1) + (σ 107 r2.toNatClampNeg))), none]) zd_186_102 rfl]
            rw [zs_getR (n := 119) (K := zx_pk (zK L) 119) (ρ := zR) (c := 12) (k := 27) (q := 82) (p := 92) zd_186_103 rfl rfl rfl (by decide) rfl]
            rw [zs_iload_n (ls := [some (.ref 82), some (.int x1), some (.int r1), some (.int ((24 * x1) + (σ 107 r2.toNatClampNeg))), none]) zd_186_106 rfl]
            by_cases c8 : 0 ≤ ((24 * x1) + (σ 107 r2.toNatClampNeg)) ∧ ((24 * x1) + (σ 107 r2.toNatClampNeg)) < 96
            · rw [if_pos c8] at H
              rw [zp_iaload (n := 119) (K := zx_pk (zK L) 119) (σ := σ) (q := 92) (m := 96) (i := ((24 * x1) + (σ 107 r2.toNatClampNeg))) (k := ((24 * x1) + (σ 107 r2.toNatClampNeg)).toNatClampNeg) (v := (σ 92 ((24 * x1) + (σ 107 r2.toNatClampNeg)).toNatClampNeg)) zd_186_107 rfl (by decide) (zJ_in c8 rfl) rfl rfl]
              rw [zs_bipush (z := 11) zd_186_108 (by decide)]
              by_cases c9 : ¬ (σ 92 ((24 * x1) + (σ 107 r2.toNatClampNeg)).toNatClampNeg) = 11
              · rw [if_pos c9] at H
                rw [zp_icmp_ne_t (x := (σ 92 ((24 * x1) + (σ 107 r2.toNatClampNeg)).toNatClampNeg)) (y := 11) (t := 141) zd_186_110 rfl c9]
                exact zt_M_canStep_141  H
              · rw [if_neg c9] at H
                rw [zp_icmp_ne_f (x := (σ 92 ((24 * x1) + (σ 107 r2.toNatClampNeg)).toNatClampNeg)) (y := 11) (t := 141) zd_186_110 rfl c9]
                rw [zs_aload_n (ls := [some (.ref 82), some (.int x1), some (.int r1), some (.int ((24 * x1) + (σ 107 r2.toNatClampNeg))), none]) zd_186_113 rfl]
                rw [zs_aload_n (ls := [some (.ref 82), some (.int x1), some (.int r1), some (.int ((24 * x1) + (σ 107 r2.toNatClampNeg))), none]) zd_186_114 rfl]
                rw [zs_getR (n := 119) (K := zx_pk (zK L) 119) (ρ := zR) (c := 12) (k := 28) (q := 82) (p := 93) zd_186_115 rfl rfl rfl (by decide) rfl]
                rw [zs_iload_n (ls := [some (.ref 82), some (.int x1), some (.int r1), some (.int ((24 * x1) + (σ 107 r2.toNatClampNeg))), none]) zd_186_118 rfl]
                by_cases c10 : 0 ≤ ((24 * x1) + (σ 107 r2.toNatClampNeg)) ∧ ((24 * x1) + (σ 107 r2.toNatClampNeg)) < 96
                · rw [if_pos c10] at H
                  rw [zp_iaload (n := 119) (K := zx_pk (zK L) 119) (σ := σ) (q := 93) (m := 96) (i := ((24 * x1) + (σ 107 r2.toNatClampNeg))) (k := ((24 * x1) + (σ 107 r2.toNatClampNeg)).toNatClampNeg) (v := (σ 93 ((24 * x1) + (σ 107 r2.toNatClampNeg)).toNatClampNeg)) zd_186_119 rfl (by decide) (zJ_in c10 rfl) rfl rfl]
                  obtain ⟨r11, hr11, H⟩ := Option.bind_eq_some_iff.mp H
                  rw [zp_callVi (x := r11) (st := [.int (σ 93 ((24 * x1) + (σ 107 r2.toNatClampNeg)).toNatClampNeg), .ref 82]) (as := [.ref 82, .int (σ 93 ((24 * x1) + (σ 107 r2.toNatClampNeg)).toNatClampNeg)]) (rest := []) (e := 1) zd_186_120 rfl (by decide +kernel) (by decide) rfl rfl (Nat.le_of_ble_eq_true rfl) (zx_rcb_ok rfl (show 82 < 119 by decide)) (Nat.le_of_ble_eq_true rfl) rfl (by decide) (zt_M_stateOf hr11)]
                  rw [zs_iconst (z := 4) zd_186_123 (by decide)]
                  by_cases c12 : r11 = 4
                  · rw [if_pos c12] at H
                    rw [zp_icmp_eq_t (x := r11) (y := 4) (t := 141) zd_186_124 rfl c12]
                    exact zt_M_canStep_141  H
                  · rw [if_neg c12] at H
                    rw [zp_icmp_eq_f (x := r11) (y := 4) (t := 141) zd_186_124 rfl c12]
                    rw [zs_aload_n (ls := [some (.ref 82), some (.int x1), some (.int r1), some (.int ((24 * x1) + (σ 107 r2.toNatClampNeg))), none]) zd_186_127 rfl]
                    rw [zs_aload_n (ls := [some (.ref 82), some (.int x1), some (.int r1), some (.int ((24 * x1) + (σ 107 r2.toNatClampNeg))), none]) zd_186_128 rfl]
                    rw [zs_getR (n := 119) (K := zx_pk (zK L) 119) (ρ := zR) (c := 12) (k := 28) (q := 82) (p := 93) zd_186_129 rfl rfl rfl (by decide) rfl]
                    rw [zs_iload_n (ls := [some (.ref 82), some (.int x1), some (.int r1), some (.int ((24 * x1) + (σ 107 r2.toNatClampNeg))), none]) zd_186_132 rfl]
                    by_cases c13 : 0 ≤ ((24 * x1) + (σ 107 r2.toNatClampNeg)) ∧ ((24 * x1) + (σ 107 r2.toNatClampNeg)) < 96
                    · rw [if_pos c13] at H
                      rw [zp_iaload (n := 119) (K := zx_pk (zK L) 119) (σ := σ) (q := 93) (m := 96) (i := ((24 * x1) + (σ 107 r2.toNatClampNeg))) (k := ((24 * x1) + (σ 107 r2.toNatClampNeg)).toNatClampNeg) (v := (σ 93 ((24 * x1) + (σ 107 r2.toNatClampNeg)).toNatClampNeg)) zd_186_133 rfl (by decide) (zJ_in c13 rfl) rfl rfl]
                      obtain ⟨r14, hr14, H⟩ := Option.bind_eq_some_iff.mp H
                      rw [zp_callVi (x := r14) (st := [.int (σ 93 ((24 * x1) + (σ 107 r2.toNatClampNeg)).toNatClampNeg), .ref 82]) (as := [.ref 82, .int (σ 93 ((24 * x1) + (σ 107 r2.toNatClampNeg)).toNatClampNeg)]) (rest := []) (e := 1) zd_186_134 rfl (by decide +kernel) (by decide) rfl rfl (Nat.le_of_ble_eq_true rfl) (zx_rcb_ok rfl (show 82 < 119 by decide)) (Nat.le_of_ble_eq_true rfl) rfl (by decide) (zt_M_stateOf hr14)]
                      rw [zs_iconst (z := 5) zd_186_137 (by decide)]
                      by_cases c15 : ¬ r14 = 5
                      · rw [if_pos c15] at H
                        rw [zp_icmp_ne_t (x := r14) (y := 5) (t := 145) zd_186_138 rfl c15]
                        rw [zs_iconst (z := 0) zd_186_145 (by decide)]
                        have H := Option.some.inj H
                        subst H
                        exact zs_ireturn zd_186_146 (by decide +kernel)
                      · rw [if_neg c15] at H
                        rw [zp_icmp_ne_f (x := r14) (y := 5) (t := 145) zd_186_138 rfl c15]
                        exact zt_M_canStep_141  H
                    · rw [if_neg c13] at H
                      cases H
                · rw [if_neg c10] at H
                  cases H
            · rw [if_neg c8] at H
              cases H
          · rw [if_neg c7] at H
            rw [zp_icmp_ne_f (x := (σ 92 ((24 * x1) + (σ 107 r2.toNatClampNeg)).toNatClampNeg)) (y := 3) (t := 102) zd_186_64 rfl c7]
            rw [zs_aload_n (ls := [some (.ref 82), some (.int x1), some (.int r1), some (.int ((24 * x1) + (σ 107 r2.toNatClampNeg))), none]) zd_186_67 rfl]
            rw [zs_getR (n := 119) (K := zx_pk (zK L) 119) (ρ := zR) (c := 12) (k := 47) (q := 82) (p := 107) zd_186_68 rfl rfl rfl (by decide) rfl]
            rw [zs_bipush (z := 6) zd_186_71 (by decide)]
            rw [zs_aload_n (ls := [some (.ref 82), some (.int x1), some (.int r1), some (.int ((24 * x1) + (σ 107 r2.toNatClampNeg))), none]) zd_186_73 rfl]
            rw [zs_getR (n := 119) (K := zx_pk (zK L) 119) (ρ := zR) (c := 12) (k := 28) (q := 82) (p := 93) zd_186_74 rfl rfl rfl (by decide) rfl]
            rw [zs_iload_n (ls := [some (.ref 82), some (.int x1), some (.int r1), some (.int ((24 * x1) + (σ 107 r2.toNatClampNeg))), none]) zd_186_77 rfl]
            by_cases c16 : 0 ≤ ((24 * x1) + (σ 107 r2.toNatClampNeg)) ∧ ((24 * x1) + (σ 107 r2.toNatClampNeg)) < 96
            · rw [if_pos c16] at H
              rw [zp_iaload (n := 119) (K := zx_pk (zK L) 119) (σ := σ) (q := 93) (m := 96) (i := ((24 * x1) + (σ 107 r2.toNatClampNeg))) (k := ((24 * x1) + (σ 107 r2.toNatClampNeg)).toNatClampNeg) (v := (σ 93 ((24 * x1) + (σ 107 r2.toNatClampNeg)).toNatClampNeg)) zd_186_78 rfl (by decide) (zJ_in c16 rfl) rfl rfl]
              rw [zp_iadd (x := 6) (y := (σ 93 ((24 * x1) + (σ 107 r2.toNatClampNeg)).toNatClampNeg)) (z := (6 + (σ 93 ((24 * x1) + (σ 107 r2.toNatClampNeg)).toNatClampNeg))) zd_186_79 rfl]
              by_cases c17 : 0 ≤ (6 + (σ 93 ((24 * x1) + (σ 107 r2.toNatClampNeg)).toNatClampNeg)) ∧ (6 + (σ 93 ((24 * x1) + (σ 107 r2.toNatClampNeg)).toNatClampNeg)) < 40
              · rw [if_pos c17] at H
                rw [zp_iaload (n := 119) (K := zx_pk (zK L) 119) (σ := σ) (q := 107) (m := 40) (i := (6 + (σ 93 ((24 * x1) + (σ 107 r2.toNatClampNeg)).toNatClampNeg))) (k := (6 + (σ 93 ((24 * x1) + (σ 107 r2.toNatClampNeg)).toNatClampNeg)).toNatClampNeg) (v := (σ 107 (6 + (σ 93 ((24 * x1) + (σ 107 r2.toNatClampNeg)).toNatClampNeg)).toNatClampNeg)) zd_186_80 rfl (by decide) (zJ_in c17 rfl) rfl rfl]
                rw [zs_istore (x := (σ 107 (6 + (σ 93 ((24 * x1) + (σ 107 r2.toNatClampNeg)).toNatClampNeg)).toNatClampNeg)) (ls' := [some (.ref 82), some (.int x1), some (.int r1), some (.int ((24 * x1) + (σ 107 r2.toNatClampNeg))), some (.int (σ 107 (6 + (σ 93 ((24 * x1) + (σ 107 r2.toNatClampNeg)).toNatClampNeg)).toNatClampNeg))]) zd_186_81 (Nat.le_of_ble_eq_true rfl) rfl]
                rw [zs_iload (ls := [some (.ref 82), some (.int x1), some (.int r1), some (.int ((24 * x1) + (σ 107 r2.toNatClampNeg))), some (.int (σ 107 (6 + (σ 93 ((24 * x1) + (σ 107 r2.toNatClampNeg)).toNatClampNeg)).toNatClampNeg))]) zd_186_83 rfl]
                by_cases c18 : (σ 107 (6 + (σ 93 ((24 * x1) + (σ 107 r2.toNatClampNeg)).toNatClampNeg)).toNatClampNeg) = 0
                · rw [if_pos c18] at H
                  rw [zp_if_eq_t (x := (σ 107 (6 + (σ 93 ((24 * x1) + (σ 107 r2.toNatClampNeg)).toNatClampNeg)).toNatClampNeg)) (t := 96) zd_186_85 rfl c18]
                  exact zt_M_canStep_96  H
                · rw [if_neg c18] at H
                  rw [zp_if_eq_f (x := (σ 107 (6 + (σ 93 ((24 * x1) + (σ 107 r2.toNatClampNeg)).toNatClampNeg)).toNatClampNeg)) (t := 96) zd_186_85 rfl c18]
                  rw [zs_iload (ls := [some (.ref 82), some (.int x1), some (.int r1), some (.int ((24 * x1) + (σ 107 r2.toNatClampNeg))), some (.int (σ 107 (6 + (σ 93 ((24 * x1) + (σ 107 r2.toNatClampNeg)).toNatClampNeg)).toNatClampNeg))]) zd_186_88 rfl]
                  rw [zs_iload_n (ls := [some (.ref 82), some (.int x1), some (.int r1), some (.int ((24 * x1) + (σ 107 r2.toNatClampNeg))), some (.int (σ 107 (6 + (σ 93 ((24 * x1) + (σ 107 r2.toNatClampNeg)).toNatClampNeg)).toNatClampNeg))]) zd_186_90 rfl]
                  rw [zs_iconst (z := 1) zd_186_91 (by decide)]
                  rw [zp_iadd (x := x1) (y := 1) (z := (x1 + 1)) zd_186_92 rfl]
                  by_cases c19 : ¬ (σ 107 (6 + (σ 93 ((24 * x1) + (σ 107 r2.toNatClampNeg)).toNatClampNeg)).toNatClampNeg) = (x1 + 1)
                  · rw [if_pos c19] at H
                    rw [zp_icmp_ne_t (x := (σ 107 (6 + (σ 93 ((24 * x1) + (σ 107 r2.toNatClampNeg)).toNatClampNeg)).toNatClampNeg)) (y := (x1 + 1)) (t := 100) zd_186_93 rfl c19]
                    rw [zs_iconst (z := 0) zd_186_100 (by decide)]
                    have H := Option.some.inj H
                    subst H
                    exact zs_ireturn zd_186_101 (by decide +kernel)
                  · rw [if_neg c19] at H
                    rw [zp_icmp_ne_f (x := (σ 107 (6 + (σ 93 ((24 * x1) + (σ 107 r2.toNatClampNeg)).toNatClampNeg)).toNatClampNeg)) (y := (x1 + 1)) (t := 100) zd_186_93 rfl c19]
                    exact zt_M_canStep_96  H
              · rw [if_neg c17] at H
                cases H
            · rw [if_neg c16] at H
              cases H
        · rw [if_neg c6] at H
          cases H
      · rw [if_neg c5] at H
        rw [zp_icmp_eq_f (x := r1) (y := 1) (t := 57) zd_186_52 rfl c5]
        rw [zs_iconst (z := 0) zd_186_55 (by decide)]
        have H := Option.some.inj H
        subst H
        exact zs_ireturn zd_186_56 (by decide +kernel)
    · rw [if_neg c4] at H
      rw [zp_icmp_ne_f (x := r1) (y := 3) (t := 50) zd_186_24 rfl c4]
      rw [zs_aload_n (ls := [some (.ref 82), some (.int x1), some (.int r1), some (.int ((24 * x1) + (σ 107 r2.toNatClampNeg))), none]) zd_186_27 rfl]
      rw [zs_getR (n := 119) (K := zx_pk (zK L) 119) (ρ := zR) (c := 12) (k := 47) (q := 82) (p := 107) zd_186_28 rfl rfl rfl (by decide) rfl]
      rw [zs_bipush (z := 6) zd_186_31 (by decide)]
      rw [zs_aload_n (ls := [some (.ref 82), some (.int x1), some (.int r1), some (.int ((24 * x1) + (σ 107 r2.toNatClampNeg))), none]) zd_186_33 rfl]
      rw [zs_getR (n := 119) (K := zx_pk (zK L) 119) (ρ := zR) (c := 12) (k := 28) (q := 82) (p := 93) zd_186_34 rfl rfl rfl (by decide) rfl]
      rw [zs_iload_n (ls := [some (.ref 82), some (.int x1), some (.int r1), some (.int ((24 * x1) + (σ 107 r2.toNatClampNeg))), none]) zd_186_37 rfl]
      by_cases c20 : 0 ≤ ((24 * x1) + (σ 107 r2.toNatClampNeg)) ∧ ((24 * x1) + (σ 107 r2.toNatClampNeg)) < 96
      · rw [if_pos c20] at H
        rw [zp_iaload (n := 119) (K := zx_pk (zK L) 119) (σ := σ) (q := 93) (m := 96) (i := ((24 * x1) + (σ 107 r2.toNatClampNeg))) (k := ((24 * x1) + (σ 107 r2.toNatClampNeg)).toNatClampNeg) (v := (σ 93 ((24 * x1) + (σ 107 r2.toNatClampNeg)).toNatClampNeg)) zd_186_38 rfl (by decide) (zJ_in c20 rfl) rfl rfl]
        rw [zp_iadd (x := 6) (y := (σ 93 ((24 * x1) + (σ 107 r2.toNatClampNeg)).toNatClampNeg)) (z := (6 + (σ 93 ((24 * x1) + (σ 107 r2.toNatClampNeg)).toNatClampNeg))) zd_186_39 rfl]
        by_cases c21 : 0 ≤ (6 + (σ 93 ((24 * x1) + (σ 107 r2.toNatClampNeg)).toNatClampNeg)) ∧ (6 + (σ 93 ((24 * x1) + (σ 107 r2.toNatClampNeg)).toNatClampNeg)) < 40
        · rw [if_pos c21] at H
          rw [zp_iaload (n := 119) (K := zx_pk (zK L) 119) (σ := σ) (q := 107) (m := 40) (i := (6 + (σ 93 ((24 * x1) + (σ 107 r2.toNatClampNeg)).toNatClampNeg))) (k := (6 + (σ 93 ((24 * x1) + (σ 107 r2.toNatClampNeg)).toNatClampNeg)).toNatClampNeg) (v := (σ 107 (6 + (σ 93 ((24 * x1) + (σ 107 r2.toNatClampNeg)).toNatClampNeg)).toNatClampNeg)) zd_186_40 rfl (by decide) (zJ_in c21 rfl) rfl rfl]
          by_cases c22 : ¬ (σ 107 (6 + (σ 93 ((24 * x1) + (σ 107 r2.toNatClampNeg)).toNatClampNeg)).toNatClampNeg) = 0
          · rw [if_pos c22] at H
            rw [zp_if_ne_t (x := (σ 107 (6 + (σ 93 ((24 * x1) + (σ 107 r2.toNatClampNeg)).toNatClampNeg)).toNatClampNeg)) (t := 48) zd_186_41 rfl c22]
            rw [zs_iconst (z := 0) zd_186_48 (by decide)]
            have H := Option.some.inj H
            subst H
            exact zs_ireturn zd_186_49 (by decide +kernel)
          · rw [if_neg c22] at H
            rw [zp_if_ne_f (x := (σ 107 (6 + (σ 93 ((24 * x1) + (σ 107 r2.toNatClampNeg)).toNatClampNeg)).toNatClampNeg)) (t := 48) zd_186_41 rfl c22]
            rw [zs_iconst (z := 1) zd_186_44 (by decide)]
            rw [zs_goto (t := 49) zd_186_45 rfl]
            have H := Option.some.inj H
            subst H
            exact zs_ireturn zd_186_49 (by decide +kernel)
        · rw [if_neg c21] at H
          cases H
      · rw [if_neg c20] at H
        cases H
  · rw [if_neg c3] at H
    cases H
set_option maxRecDepth 20000 in
theorem zt_M_valueOf {a b L : Nat} {σ : zS} {τ : zT} {x1 : Int32} {x2 : Int32} {r : Int32} (H : zf_M_valueOf σ x1 x2 = some r) : zx_go 1 188 0 [some (.ref 82), some (.int x1), some (.int x2)] [] ((119, a, b), zx_pk (zK L) 119, σ, τ, zR) = some (some (.int r), ((119, a, b), zx_pk (zK L) 119, σ, τ, zR)) := by
  unfold zf_M_valueOf at H
  rw [zs_iload_n (ls := [some (.ref 82), some (.int x1), some (.int x2)]) zd_188_0 rfl]
  rw [zs_bipush (z := 8) zd_188_1 (by decide)]
  by_cases c1 : 8 ≤ x2
  · rw [if_pos c1] at H
    rw [zp_icmp_ge_t (x := x2) (y := 8) (t := 10) zd_188_3 rfl c1]
    rw [zs_aload_n (ls := [some (.ref 82), some (.int x1), some (.int x2)]) zd_188_10 rfl]
    rw [zs_getR (n := 119) (K := zx_pk (zK L) 119) (ρ := zR) (c := 12) (k := 47) (q := 82) (p := 107) zd_188_11 rfl rfl rfl (by decide) rfl]
    rw [zs_aload_n (ls := [some (.ref 82), some (.int x1), some (.int x2)]) zd_188_14 rfl]
    rw [zs_iload_n (ls := [some (.ref 82), some (.int x1), some (.int x2)]) zd_188_15 rfl]
    obtain ⟨r2, hr2, H⟩ := Option.bind_eq_some_iff.mp H
    rw [zp_callVi (x := r2) (st := [.int x1, .ref 82, .ref 107]) (as := [.ref 82, .int x1]) (rest := [.ref 107]) (e := 0) zd_188_16 rfl (by decide +kernel) (by decide) rfl rfl (Nat.le_of_ble_eq_true rfl) (zx_rcb_ok rfl (show 82 < 119 by decide)) (Nat.le_of_ble_eq_true rfl) rfl (by decide) (zt_M_at hr2)]
    rw [zs_iconst (z := 2) zd_188_19 (by decide)]
    rw [zp_iadd (x := r2) (y := 2) (z := (r2 + 2)) zd_188_20 rfl]
    rw [zs_iload_n (ls := [some (.ref 82), some (.int x1), some (.int x2)]) zd_188_21 rfl]
    rw [zp_iadd (x := (r2 + 2)) (y := x2) (z := ((r2 + 2) + x2)) zd_188_22 rfl]
    rw [zs_bipush (z := 8) zd_188_23 (by decide)]
    rw [zp_isub (x := ((r2 + 2) + x2)) (y := 8) (z := (((r2 + 2) + x2) - 8)) zd_188_25 rfl]
    by_cases c3 : 0 ≤ (((r2 + 2) + x2) - 8) ∧ (((r2 + 2) + x2) - 8) < 40
    · rw [if_pos c3] at H
      rw [zp_iaload (n := 119) (K := zx_pk (zK L) 119) (σ := σ) (q := 107) (m := 40) (i := (((r2 + 2) + x2) - 8)) (k := (((r2 + 2) + x2) - 8).toNatClampNeg) (v := (σ 107 (((r2 + 2) + x2) - 8).toNatClampNeg)) zd_188_26 rfl (by decide) (zJ_in c3 rfl) rfl rfl]
      have H := Option.some.inj H
      subst H
      exact zs_ireturn zd_188_27 rfl
    · rw [if_neg c3] at H
      cases H
  · rw [if_neg c1] at H
    rw [zp_icmp_ge_f (x := x2) (y := 8) (t := 10) zd_188_3 rfl c1]
    rw [zs_iload_n (ls := [some (.ref 82), some (.int x1), some (.int x2)]) zd_188_6 rfl]
    rw [zs_goto (t := 27) zd_188_7 rfl]
    have H := Option.some.inj H
    subst H
    exact zs_ireturn zd_188_27 rfl
set_option maxRecDepth 20000 in
theorem zt_M_isSo {a b L : Nat} {σ : zS} {τ : zT} {x1 : Int32} {x2 : Int32} {r : Int32} (H : zf_M_isSo σ x1 x2 = some r) : zx_go 2 189 0 [some (.ref 82), some (.int x1), some (.int x2), none, none] [] ((119, a, b), zx_pk (zK L) 119, σ, τ, zR) = some (some (.int r), ((119, a, b), zx_pk (zK L) 119, σ, τ, zR)) := by
  unfold zf_M_isSo at H
  rw [zs_aload_n (ls := [some (.ref 82), some (.int x1), some (.int x2), none, none]) zd_189_0 rfl]
  rw [zs_iload_n (ls := [some (.ref 82), some (.int x1), some (.int x2), none, none]) zd_189_1 rfl]
  rw [zs_aload_n (ls := [some (.ref 82), some (.int x1), some (.int x2), none, none]) zd_189_2 rfl]
  rw [zs_getR (n := 119) (K := zx_pk (zK L) 119) (ρ := zR) (c := 12) (k := 34) (q := 82) (p := 99) zd_189_3 rfl rfl rfl (by decide) rfl]
  rw [zs_iload_n (ls := [some (.ref 82), some (.int x1), some (.int x2), none, none]) zd_189_6 rfl]
  by_cases c1 : 0 ≤ x2 ∧ x2 < 96
  · rw [if_pos c1] at H
    rw [zp_iaload (n := 119) (K := zx_pk (zK L) 119) (σ := σ) (q := 99) (m := 96) (i := x2) (k := x2.toNatClampNeg) (v := (σ 99 x2.toNatClampNeg)) zd_189_7 rfl (by decide) (zJ_in c1 rfl) rfl rfl]
    obtain ⟨r2, hr2, H⟩ := Option.bind_eq_some_iff.mp H
    rw [zp_callVi (x := r2) (st := [.int (σ 99 x2.toNatClampNeg), .int x1, .ref 82]) (as := [.ref 82, .int x1, .int (σ 99 x2.toNatClampNeg)]) (rest := []) (e := 1) zd_189_8 rfl (by decide +kernel) (by decide) rfl rfl (Nat.le_of_ble_eq_true rfl) (zx_rcb_ok rfl (show 82 < 119 by decide)) (Nat.le_of_ble_eq_true rfl) rfl (by decide) (zt_M_valueOf hr2)]
    rw [zs_istore_n (x := r2) (ls' := [some (.ref 82), some (.int x1), some (.int x2), some (.int r2), none]) zd_189_11 (Nat.le_of_ble_eq_true rfl) rfl]
    rw [zs_aload_n (ls := [some (.ref 82), some (.int x1), some (.int x2), some (.int r2), none]) zd_189_12 rfl]
    rw [zs_iload_n (ls := [some (.ref 82), some (.int x1), some (.int x2), some (.int r2), none]) zd_189_13 rfl]
    rw [zs_aload_n (ls := [some (.ref 82), some (.int x1), some (.int x2), some (.int r2), none]) zd_189_14 rfl]
    rw [zs_getR (n := 119) (K := zx_pk (zK L) 119) (ρ := zR) (c := 12) (k := 35) (q := 82) (p := 100) zd_189_15 rfl rfl rfl (by decide) rfl]
    rw [zs_iload_n (ls := [some (.ref 82), some (.int x1), some (.int x2), some (.int r2), none]) zd_189_18 rfl]
    by_cases c3 : 0 ≤ x2 ∧ x2 < 96
    · rw [if_pos c3] at H
      rw [zp_iaload (n := 119) (K := zx_pk (zK L) 119) (σ := σ) (q := 100) (m := 96) (i := x2) (k := x2.toNatClampNeg) (v := (σ 100 x2.toNatClampNeg)) zd_189_19 rfl (by decide) (zJ_in c3 rfl) rfl rfl]
      obtain ⟨r4, hr4, H⟩ := Option.bind_eq_some_iff.mp H
      rw [zp_callVi (x := r4) (st := [.int (σ 100 x2.toNatClampNeg), .int x1, .ref 82]) (as := [.ref 82, .int x1, .int (σ 100 x2.toNatClampNeg)]) (rest := []) (e := 1) zd_189_20 rfl (by decide +kernel) (by decide) rfl rfl (Nat.le_of_ble_eq_true rfl) (zx_rcb_ok rfl (show 82 < 119 by decide)) (Nat.le_of_ble_eq_true rfl) rfl (by decide) (zt_M_valueOf hr4)]
      rw [zs_istore (x := r4) (ls' := [some (.ref 82), some (.int x1), some (.int x2), some (.int r2), some (.int r4)]) zd_189_23 (Nat.le_of_ble_eq_true rfl) rfl]
      rw [zs_aload_n (ls := [some (.ref 82), some (.int x1), some (.int x2), some (.int r2), some (.int r4)]) zd_189_25 rfl]
      rw [zs_getR (n := 119) (K := zx_pk (zK L) 119) (ρ := zR) (c := 12) (k := 36) (q := 82) (p := 101) zd_189_26 rfl rfl rfl (by decide) rfl]
      rw [zs_iload_n (ls := [some (.ref 82), some (.int x1), some (.int x2), some (.int r2), some (.int r4)]) zd_189_29 rfl]
      by_cases c5 : 0 ≤ x2 ∧ x2 < 96
      · rw [if_pos c5] at H
        rw [zp_iaload (n := 119) (K := zx_pk (zK L) 119) (σ := σ) (q := 101) (m := 96) (i := x2) (k := x2.toNatClampNeg) (v := (σ 101 x2.toNatClampNeg)) zd_189_30 rfl (by decide) (zJ_in c5 rfl) rfl rfl]
        rw [zs_sipush (z := 1000) zd_189_31 (by decide)]
        by_cases c6 : ¬ (σ 101 x2.toNatClampNeg) = 1000
        · rw [if_pos c6] at H
          rw [zp_icmp_ne_t (x := (σ 101 x2.toNatClampNeg)) (y := 1000) (t := 51) zd_189_34 rfl c6]
          rw [zs_aload_n (ls := [some (.ref 82), some (.int x1), some (.int x2), some (.int r2), some (.int r4)]) zd_189_51 rfl]
          rw [zs_getR (n := 119) (K := zx_pk (zK L) 119) (ρ := zR) (c := 12) (k := 36) (q := 82) (p := 101) zd_189_52 rfl rfl rfl (by decide) rfl]
          rw [zs_iload_n (ls := [some (.ref 82), some (.int x1), some (.int x2), some (.int r2), some (.int r4)]) zd_189_55 rfl]
          by_cases c7 : 0 ≤ x2 ∧ x2 < 96
          · rw [if_pos c7] at H
            rw [zp_iaload (n := 119) (K := zx_pk (zK L) 119) (σ := σ) (q := 101) (m := 96) (i := x2) (k := x2.toNatClampNeg) (v := (σ 101 x2.toNatClampNeg)) zd_189_56 rfl (by decide) (zJ_in c7 rfl) rfl rfl]
            rw [zs_sipush (z := 1001) zd_189_57 (by decide)]
            by_cases c8 : ¬ (σ 101 x2.toNatClampNeg) = 1001
            · rw [if_pos c8] at H
              rw [zp_icmp_ne_t (x := (σ 101 x2.toNatClampNeg)) (y := 1001) (t := 77) zd_189_60 rfl c8]
              rw [zs_aload_n (ls := [some (.ref 82), some (.int x1), some (.int x2), some (.int r2), some (.int r4)]) zd_189_77 rfl]
              rw [zs_getR (n := 119) (K := zx_pk (zK L) 119) (ρ := zR) (c := 12) (k := 36) (q := 82) (p := 101) zd_189_78 rfl rfl rfl (by decide) rfl]
              rw [zs_iload_n (ls := [some (.ref 82), some (.int x1), some (.int x2), some (.int r2), some (.int r4)]) zd_189_81 rfl]
              by_cases c9 : 0 ≤ x2 ∧ x2 < 96
              · rw [if_pos c9] at H
                rw [zp_iaload (n := 119) (K := zx_pk (zK L) 119) (σ := σ) (q := 101) (m := 96) (i := x2) (k := x2.toNatClampNeg) (v := (σ 101 x2.toNatClampNeg)) zd_189_82 rfl (by decide) (zJ_in c9 rfl) rfl rfl]
                rw [zs_bipush (z := 60) zd_189_83 (by decide)]
                by_cases c10 : ¬ (σ 101 x2.toNatClampNeg) = 60
                · rw [if_pos c10] at H
                  rw [zp_icmp_ne_t (x := (σ 101 x2.toNatClampNeg)) (y := 60) (t := 102) zd_189_85 rfl c10]
                  rw [zs_iload_n (ls := [some (.ref 82), some (.int x1), some (.int x2), some (.int r2), some (.int r4)]) zd_189_102 rfl]
                  rw [zs_iload (ls := [some (.ref 82), some (.int x1), some (.int x2), some (.int r2), some (.int r4)]) zd_189_103 rfl]
                  by_cases c11 : r2 ≤ r4
                  · rw [if_pos c11] at H
                    rw [zp_icmp_le_t (x := r2) (y := r4) (t := 112) zd_189_105 rfl c11]
                    rw [zs_iconst (z := 0) zd_189_112 (by decide)]
                    have H := Option.some.inj H
                    subst H
                    exact zs_ireturn zd_189_113 (by decide +kernel)
                  · rw [if_neg c11] at H
                    rw [zp_icmp_le_f (x := r2) (y := r4) (t := 112) zd_189_105 rfl c11]
                    rw [zs_iconst (z := 1) zd_189_108 (by decide)]
                    rw [zs_goto (t := 113) zd_189_109 rfl]
                    have H := Option.some.inj H
                    subst H
                    exact zs_ireturn zd_189_113 (by decide +kernel)
                · rw [if_neg c10] at H
                  rw [zp_icmp_ne_f (x := (σ 101 x2.toNatClampNeg)) (y := 60) (t := 102) zd_189_85 rfl c10]
                  rw [zs_iload_n (ls := [some (.ref 82), some (.int x1), some (.int x2), some (.int r2), some (.int r4)]) zd_189_88 rfl]
                  rw [zs_iload (ls := [some (.ref 82), some (.int x1), some (.int x2), some (.int r2), some (.int r4)]) zd_189_89 rfl]
                  by_cases c12 : r4 ≤ r2
                  · rw [if_pos c12] at H
                    rw [zp_icmp_ge_t (x := r2) (y := r4) (t := 98) zd_189_91 rfl c12]
                    rw [zs_iconst (z := 0) zd_189_98 (by decide)]
                    rw [zs_goto (t := 113) zd_189_99 rfl]
                    have H := Option.some.inj H
                    subst H
                    exact zs_ireturn zd_189_113 (by decide +kernel)
                  · rw [if_neg c12] at H
                    rw [zp_icmp_ge_f (x := r2) (y := r4) (t := 98) zd_189_91 rfl c12]
                    rw [zs_iconst (z := 1) zd_189_94 (by decide)]
                    rw [zs_goto (t := 113) zd_189_95 rfl]
                    have H := Option.some.inj H
                    subst H
                    exact zs_ireturn zd_189_113 (by decide +kernel)
              · rw [if_neg c9] at H
                cases H
            · rw [if_neg c8] at H
              rw [zp_icmp_ne_f (x := (σ 101 x2.toNatClampNeg)) (y := 1001) (t := 77) zd_189_60 rfl c8]
              rw [zs_iload_n (ls := [some (.ref 82), some (.int x1), some (.int x2), some (.int r2), some (.int r4)]) zd_189_63 rfl]
              rw [zs_iload (ls := [some (.ref 82), some (.int x1), some (.int x2), some (.int r2), some (.int r4)]) zd_189_64 rfl]
              by_cases c13 : r2 = r4
              · rw [if_pos c13] at H
                rw [zp_icmp_eq_t (x := r2) (y := r4) (t := 73) zd_189_66 rfl c13]
                rw [zs_iconst (z := 0) zd_189_73 (by decide)]
                rw [zs_goto (t := 113) zd_189_74 rfl]
                have H := Option.some.inj H
                subst H
                exact zs_ireturn zd_189_113 (by decide +kernel)
              · rw [if_neg c13] at H
                rw [zp_icmp_eq_f (x := r2) (y := r4) (t := 73) zd_189_66 rfl c13]
                rw [zs_iconst (z := 1) zd_189_69 (by decide)]
                rw [zs_goto (t := 113) zd_189_70 rfl]
                have H := Option.some.inj H
                subst H
                exact zs_ireturn zd_189_113 (by decide +kernel)
          · rw [if_neg c7] at H
            cases H
        · rw [if_neg c6] at H
          rw [zp_icmp_ne_f (x := (σ 101 x2.toNatClampNeg)) (y := 1000) (t := 51) zd_189_34 rfl c6]
          rw [zs_iload_n (ls := [some (.ref 82), some (.int x1), some (.int x2), some (.int r2), some (.int r4)]) zd_189_37 rfl]
          rw [zs_iload (ls := [some (.ref 82), some (.int x1), some (.int x2), some (.int r2), some (.int r4)]) zd_189_38 rfl]
          by_cases c14 : ¬ r2 = r4
          · rw [if_pos c14] at H
            rw [zp_icmp_ne_t (x := r2) (y := r4) (t := 47) zd_189_40 rfl c14]
            rw [zs_iconst (z := 0) zd_189_47 (by decide)]
            rw [zs_goto (t := 113) zd_189_48 rfl]
            have H := Option.some.inj H
            subst H
            exact zs_ireturn zd_189_113 (by decide +kernel)
          · rw [if_neg c14] at H
            rw [zp_icmp_ne_f (x := r2) (y := r4) (t := 47) zd_189_40 rfl c14]
            rw [zs_iconst (z := 1) zd_189_43 (by decide)]
            rw [zs_goto (t := 113) zd_189_44 rfl]
            have H := Option.some.inj H
            subst H
            exact zs_ireturn zd_189_113 (by decide +kernel)
      · rw [if_neg c5] at H
        cases H
    · rw [if_neg c3] at H
      cases H
  · rw [if_neg c1] at H
    cases H
set_option maxRecDepth 20000 in
theorem zt_M_failing {a b L N : Nat} {σ : zS} {τ : zT} {x1 : Int32} {r : zS} (H : zf_M_failing N σ x1 = some r) : zx_go 1 190 0 [some (.ref 82), some (.int x1)] [] ((119, a, b), zx_pk (zK L) 119, σ, τ, zR) = some (none, ((119, a, b), zx_pk (zK L) 119, r, τ, zR)) := by
  unfold zf_M_failing at H
  rw [zs_aload_n (ls := [some (.ref 82), some (.int x1)]) zd_190_0 rfl]
  rw [zs_getR (n := 119) (K := zx_pk (zK L) 119) (ρ := zR) (c := 12) (k := 47) (q := 82) (p := 107) zd_190_1 rfl rfl rfl (by decide) rfl]
  rw [zs_aload_n (ls := [some (.ref 82), some (.int x1)]) zd_190_4 rfl]
  rw [zs_iload_n (ls := [some (.ref 82), some (.int x1)]) zd_190_5 rfl]
  obtain ⟨r1, hr1, H⟩ := Option.bind_eq_some_iff.mp H
  rw [zp_callVi (x := r1) (st := [.int x1, .ref 82, .ref 107]) (as := [.ref 82, .int x1]) (rest := [.ref 107]) (e := 0) zd_190_6 rfl (by decide +kernel) (by decide) rfl rfl (Nat.le_of_ble_eq_true rfl) (zx_rcb_ok rfl (show 82 < 119 by decide)) (Nat.le_of_ble_eq_true rfl) rfl (by decide) (zt_M_at hr1)]
  rw [zs_iconst (z := 1) zd_190_9 (by decide)]
  rw [zp_iadd (x := r1) (y := 1) (z := (r1 + 1)) zd_190_10 rfl]
  rw [zs_iconst (z := 5) zd_190_11 (by decide)]
  by_cases c2 : 0 ≤ (r1 + 1) ∧ (r1 + 1) < 40
  · rw [if_pos c2] at H
    rw [zp_iastore (n := 119) (K := zx_pk (zK L) 119) (q := 107) (m := 40) (i := (r1 + 1)) (k := (r1 + 1).toNatClampNeg) (x := 5) (z := 5) zd_190_12 rfl ⟨by decide, by decide⟩ (zJ_in c2 rfl) rfl rfl]
    rw [zs_aload_n (ls := [some (.ref 82), some (.int x1)]) zd_190_13 rfl]
    rw [zs_iload_n (ls := [some (.ref 82), some (.int x1)]) zd_190_14 rfl]
    obtain ⟨r3, hr3, H⟩ := Option.bind_eq_some_iff.mp H
    rw [zp_callVv (st := [.int x1, .ref 82]) (as := [.ref 82, .int x1]) (rest := []) (e := 0) zd_190_15 rfl (by decide +kernel) (by decide) rfl rfl (Nat.le_of_ble_eq_true rfl) (zx_rcb_ok rfl (show 82 < 119 by decide)) (Nat.le_of_ble_eq_true rfl) rfl (by decide) (zt_M_letGo hr3)]
    have H := Option.some.inj H
    subst H
    exact zs_return zd_190_18 (by decide +kernel)
  · rw [if_neg c2] at H
    cases H
set_option maxRecDepth 20000 in
theorem zt_M_wake_70 {a b L N : Nat} {k5 : zS → Int32 → Int32 → Int32 → Int32 → Option (zS)} (hk5 : ∀ {σ : zS} {τ : zT} {v1 : Int32} {v2 : Int32} {v3 : Int32} {v4 : Int32} {r : zS}, k5 σ v1 v2 v3 v4 = some r → zx_go 2 191 5 [some (.ref 82), some (.int v1), some (.int v2), some (.int v3), some (.int v4)] [] ((119, a, b), zx_pk (zK L) 119, σ, τ, zR) = some (none, ((119, a, b), zx_pk (zK L) 119, r, τ, zR))) {σ : zS} {τ : zT} {v1 : Int32} {v2 : Int32} {v3 : Int32} {v4 : Int32} {r : zS} (H : zb_M_wake_70 k5 N σ v1 v2 v3 v4 = some r) : zx_go 2 191 70 [some (.ref 82), some (.int v1), some (.int v2), some (.int v3), some (.int v4)] [] ((119, a, b), zx_pk (zK L) 119, σ, τ, zR) = some (none, ((119, a, b), zx_pk (zK L) 119, r, τ, zR)) := by
  unfold zb_M_wake_70 at H
  rw [zs_iinc (ls := [some (.ref 82), some (.int v1), some (.int v2), some (.int v3), some (.int v4)]) (x := v4) (z := (v4 + 1)) (ls' := [some (.ref 82), some (.int v1), some (.int v2), some (.int v3), some (.int (v4 + 1))]) zd_191_70 rfl rfl rfl]
  rw [zs_goto (t := 5) zd_191_73 rfl]
  exact hk5 H
set_option maxRecDepth 20000 in
theorem zt_M_wake_5 {a b L N : Nat} : ∀ {n : Nat} {σ : zS} {τ : zT} {v1 : Int32} {v2 : Int32} {v3 : Int32} {v4 : Int32} {r : zS}, zb_M_wake_5 N n σ v1 v2 v3 v4 = some r → zx_go 2 191 5 [some (.ref 82), some (.int v1), some (.int v2), some (.int v3), some (.int v4)] [] ((119, a, b), zx_pk (zK L) 119, σ, τ, zR) = some (none, ((119, a, b), zx_pk (zK L) 119, r, τ, zR)) := by
  intro n
  induction n with
  | zero =>
    intro _ _ _ _ _ _ _ H
    cases H
  | succ n ih =>
    intro σ τ v1 v2 v3 v4 r H
    rw [zb_M_wake_5] at H
    rw [zs_iload (ls := [some (.ref 82), some (.int v1), some (.int v2), some (.int v3), some (.int v4)]) zd_191_5 rfl]
    rw [zs_aload_n (ls := [some (.ref 82), some (.int v1), some (.int v2), some (.int v3), some (.int v4)]) zd_191_7 rfl]
    rw [zp_getI (n := 119) (K := zx_pk (zK L) 119) (σ := σ) (c := 12) (k := 17) (q := 82) (v := (σ 82 17)) zd_191_8 rfl rfl rfl (by decide) rfl]
    by_cases c1 : (σ 82 17) ≤ v4
    · rw [if_pos c1] at H
      rw [zp_icmp_ge_t (x := v4) (y := (σ 82 17)) (t := 76) zd_191_11 rfl c1]
      have H := Option.some.inj H
      subst H
      exact zs_return zd_191_76 (by decide +kernel)
    · rw [if_neg c1] at H
      rw [zp_icmp_ge_f (x := v4) (y := (σ 82 17)) (t := 76) zd_191_11 rfl c1]
      rw [zs_iload_n (ls := [some (.ref 82), some (.int v1), some (.int v2), some (.int v3), some (.int v4)]) zd_191_14 rfl]
      by_cases c2 : v3 = 0
      · rw [if_pos c2] at H
        rw [zp_if_eq_t (x := v3) (t := 76) zd_191_15 rfl c2]
        have H := Option.some.inj H
        subst H
        exact zs_return zd_191_76 (by decide +kernel)
      · rw [if_neg c2] at H
        rw [zp_if_eq_f (x := v3) (t := 76) zd_191_15 rfl c2]
        rw [zs_aload_n (ls := [some (.ref 82), some (.int v1), some (.int v2), some (.int v3), some (.int v4)]) zd_191_18 rfl]
        rw [zs_iload (ls := [some (.ref 82), some (.int v1), some (.int v2), some (.int v3), some (.int v4)]) zd_191_19 rfl]
        obtain ⟨r3, hr3, H⟩ := Option.bind_eq_some_iff.mp H
        rw [zp_callVi (x := r3) (st := [.int v4, .ref 82]) (as := [.ref 82, .int v4]) (rest := []) (e := 1) zd_191_21 rfl (by decide +kernel) (by decide) rfl rfl (Nat.le_of_ble_eq_true rfl) (zx_rcb_ok rfl (show 82 < 119 by decide)) (Nat.le_of_ble_eq_true rfl) rfl (by decide) (zt_M_stateOf hr3)]
        rw [zs_iconst (z := 2) zd_191_24 (by decide)]
        by_cases c4 : ¬ r3 = 2
        · rw [if_pos c4] at H
          rw [zp_icmp_ne_t (x := r3) (y := 2) (t := 70) zd_191_25 rfl c4]
          exact zt_M_wake_70 (hk5 := ih) H
        · rw [if_neg c4] at H
          rw [zp_icmp_ne_f (x := r3) (y := 2) (t := 70) zd_191_25 rfl c4]
          rw [zs_aload_n (ls := [some (.ref 82), some (.int v1), some (.int v2), some (.int v3), some (.int v4)]) zd_191_28 rfl]
          rw [zs_getR (n := 119) (K := zx_pk (zK L) 119) (ρ := zR) (c := 12) (k := 28) (q := 82) (p := 93) zd_191_29 rfl rfl rfl (by decide) rfl]
          rw [zs_bipush (z := 24) zd_191_32 (by decide)]
          rw [zs_iload (ls := [some (.ref 82), some (.int v1), some (.int v2), some (.int v3), some (.int v4)]) zd_191_34 rfl]
          rw [zp_imul (x := 24) (y := v4) (z := (24 * v4)) zd_191_36 rfl]
          rw [zs_aload_n (ls := [some (.ref 82), some (.int v1), some (.int v2), some (.int v3), some (.int v4)]) zd_191_37 rfl]
          rw [zs_getR (n := 119) (K := zx_pk (zK L) 119) (ρ := zR) (c := 12) (k := 47) (q := 82) (p := 107) zd_191_38 rfl rfl rfl (by decide) rfl]
          rw [zs_aload_n (ls := [some (.ref 82), some (.int v1), some (.int v2), some (.int v3), some (.int v4)]) zd_191_41 rfl]
          rw [zs_iload (ls := [some (.ref 82), some (.int v1), some (.int v2), some (.int v3), some (.int v4)]) zd_191_42 rfl]
          obtain ⟨r5, hr5, H⟩ := Option.bind_eq_some_iff.mp H
          rw [zp_callVi (x := r5) (st := [.int v4, .ref 82, .ref 107, .int (24 * v4), .ref 93]) (as := [.ref 82, .int v4]) (rest := [.ref 107, .int (24 * v4), .ref 93]) (e := 0) zd_191_44 rfl (by decide +kernel) (by decide) rfl rfl (Nat.le_of_ble_eq_true rfl) (zx_rcb_ok rfl (show 82 < 119 by decide)) (Nat.le_of_ble_eq_true rfl) rfl (by decide) (zt_M_at hr5)]
          by_cases c6 : 0 ≤ r5 ∧ r5 < 40
          · rw [if_pos c6] at H
            rw [zp_iaload (n := 119) (K := zx_pk (zK L) 119) (σ := σ) (q := 107) (m := 40) (i := r5) (k := r5.toNatClampNeg) (v := (σ 107 r5.toNatClampNeg)) zd_191_47 rfl (by decide) (zJ_in c6 rfl) rfl rfl]
            rw [zp_iadd (x := (24 * v4)) (y := (σ 107 r5.toNatClampNeg)) (z := ((24 * v4) + (σ 107 r5.toNatClampNeg))) zd_191_48 rfl]
            by_cases c7 : 0 ≤ ((24 * v4) + (σ 107 r5.toNatClampNeg)) ∧ ((24 * v4) + (σ 107 r5.toNatClampNeg)) < 96
            · rw [if_pos c7] at H
              rw [zp_iaload (n := 119) (K := zx_pk (zK L) 119) (σ := σ) (q := 93) (m := 96) (i := ((24 * v4) + (σ 107 r5.toNatClampNeg))) (k := ((24 * v4) + (σ 107 r5.toNatClampNeg)).toNatClampNeg) (v := (σ 93 ((24 * v4) + (σ 107 r5.toNatClampNeg)).toNatClampNeg)) zd_191_49 rfl (by decide) (zJ_in c7 rfl) rfl rfl]
              rw [zs_iload_n (ls := [some (.ref 82), some (.int v1), some (.int v2), some (.int v3), some (.int v4)]) zd_191_50 rfl]
              by_cases c8 : ¬ (σ 93 ((24 * v4) + (σ 107 r5.toNatClampNeg)).toNatClampNeg) = v1
              · rw [if_pos c8] at H
                rw [zp_icmp_ne_t (x := (σ 93 ((24 * v4) + (σ 107 r5.toNatClampNeg)).toNatClampNeg)) (y := v1) (t := 70) zd_191_51 rfl c8]
                exact zt_M_wake_70 (hk5 := ih) H
              · rw [if_neg c8] at H
                rw [zp_icmp_ne_f (x := (σ 93 ((24 * v4) + (σ 107 r5.toNatClampNeg)).toNatClampNeg)) (y := v1) (t := 70) zd_191_51 rfl c8]
                rw [zs_aload_n (ls := [some (.ref 82), some (.int v1), some (.int v2), some (.int v3), some (.int v4)]) zd_191_54 rfl]
                rw [zs_getR (n := 119) (K := zx_pk (zK L) 119) (ρ := zR) (c := 12) (k := 47) (q := 82) (p := 107) zd_191_55 rfl rfl rfl (by decide) rfl]
                rw [zs_aload_n (ls := [some (.ref 82), some (.int v1), some (.int v2), some (.int v3), some (.int v4)]) zd_191_58 rfl]
                rw [zs_iload (ls := [some (.ref 82), some (.int v1), some (.int v2), some (.int v3), some (.int v4)]) zd_191_59 rfl]
                obtain ⟨r9, hr9, H⟩ := Option.bind_eq_some_iff.mp H
                rw [zp_callVi (x := r9) (st := [.int v4, .ref 82, .ref 107]) (as := [.ref 82, .int v4]) (rest := [.ref 107]) (e := 0) zd_191_61 rfl (by decide +kernel) (by decide) rfl rfl (Nat.le_of_ble_eq_true rfl) (zx_rcb_ok rfl (show 82 < 119 by decide)) (Nat.le_of_ble_eq_true rfl) rfl (by decide) (zt_M_at hr9)]
                rw [zs_iconst (z := 1) zd_191_64 (by decide)]
                rw [zp_iadd (x := r9) (y := 1) (z := (r9 + 1)) zd_191_65 rfl]
                rw [zs_iconst (z := 3) zd_191_66 (by decide)]
                by_cases c10 : 0 ≤ (r9 + 1) ∧ (r9 + 1) < 40
                · rw [if_pos c10] at H
                  rw [zp_iastore (n := 119) (K := zx_pk (zK L) 119) (q := 107) (m := 40) (i := (r9 + 1)) (k := (r9 + 1).toNatClampNeg) (x := 3) (z := 3) zd_191_67 rfl ⟨by decide, by decide⟩ (zJ_in c10 rfl) rfl rfl]
                  rw [zs_iload_n (ls := [some (.ref 82), some (.int v1), some (.int v2), some (.int v3), some (.int v4)]) zd_191_68 rfl]
                  rw [zs_istore_n (x := v2) (ls' := [some (.ref 82), some (.int v1), some (.int v2), some (.int v2), some (.int v4)]) zd_191_69 (Nat.le_of_ble_eq_true rfl) rfl]
                  exact zt_M_wake_70 (hk5 := ih) H
                · rw [if_neg c10] at H
                  cases H
            · rw [if_neg c7] at H
              cases H
          · rw [if_neg c6] at H
            cases H
set_option maxRecDepth 20000 in
theorem zt_M_wake {a b L N : Nat} {σ : zS} {τ : zT} {x1 : Int32} {x2 : Int32} {r : zS} (H : zf_M_wake N σ x1 x2 = some r) : zx_go 2 191 0 [some (.ref 82), some (.int x1), some (.int x2), none, none] [] ((119, a, b), zx_pk (zK L) 119, σ, τ, zR) = some (none, ((119, a, b), zx_pk (zK L) 119, r, τ, zR)) := by
  unfold zf_M_wake at H
  rw [zs_iconst (z := 1) zd_191_0 (by decide)]
  rw [zs_istore_n (x := 1) (ls' := [some (.ref 82), some (.int x1), some (.int x2), some (.int 1), none]) zd_191_1 (Nat.le_of_ble_eq_true rfl) rfl]
  rw [zs_iconst (z := 0) zd_191_2 (by decide)]
  rw [zs_istore (x := 0) (ls' := [some (.ref 82), some (.int x1), some (.int x2), some (.int 1), some (.int 0)]) zd_191_3 (Nat.le_of_ble_eq_true rfl) rfl]
  exact zt_M_wake_5  H
set_option maxRecDepth 20000 in
theorem zt_M_doStep_618 {a b L N : Nat} {σ : zS} {τ : zT} {v1 : Int32} {v2 : Int32} {o3 : Option Value} {o4 : Option Value} {o5 : Option Value} {r : zS} (H : zb_M_doStep_618 N σ v1 v2 = some r) : zx_go 3 187 618 [some (.ref 82), some (.int v1), some (.int v2), o3, o4, o5] [] ((119, a, b), zx_pk (zK L) 119, σ, τ, zR) = some (none, ((119, a, b), zx_pk (zK L) 119, r, τ, zR)) := by
  unfold zb_M_doStep_618 at H
  rw [zs_aload_n (ls := [some (.ref 82), some (.int v1), some (.int v2), o3, o4, o5]) zd_187_618 rfl]
  rw [zs_iload_n (ls := [some (.ref 82), some (.int v1), some (.int v2), o3, o4, o5]) zd_187_619 rfl]
  rw [zs_aload_n (ls := [some (.ref 82), some (.int v1), some (.int v2), o3, o4, o5]) zd_187_620 rfl]
  rw [zs_getR (n := 119) (K := zx_pk (zK L) 119) (ρ := zR) (c := 12) (k := 29) (q := 82) (p := 94) zd_187_621 rfl rfl rfl (by decide) rfl]
  rw [zs_iload_n (ls := [some (.ref 82), some (.int v1), some (.int v2), o3, o4, o5]) zd_187_624 rfl]
  by_cases c24 : 0 ≤ v2 ∧ v2 < 96
  · rw [if_pos c24] at H
    rw [zp_iaload (n := 119) (K := zx_pk (zK L) 119) (σ := σ) (q := 94) (m := 96) (i := v2) (k := v2.toNatClampNeg) (v := (σ 94 v2.toNatClampNeg)) zd_187_625 rfl (by decide) (zJ_in c24 rfl) rfl rfl]
    obtain ⟨r25, hr25, H⟩ := Option.bind_eq_some_iff.mp H
    rw [zp_callVv (st := [.int (σ 94 v2.toNatClampNeg), .int v1, .ref 82]) (as := [.ref 82, .int v1, .int (σ 94 v2.toNatClampNeg)]) (rest := []) (e := 1) zd_187_626 rfl (by decide +kernel) (by decide) rfl rfl (Nat.le_of_ble_eq_true rfl) (zx_rcb_ok rfl (show 82 < 119 by decide)) (Nat.le_of_ble_eq_true rfl) rfl (by decide) (zt_M_goTo hr25)]
    have H := Option.some.inj H
    subst H
    exact zs_return zd_187_629 (by decide +kernel)
  · rw [if_neg c24] at H
    cases H
set_option maxRecDepth 20000 in
theorem zt_M_doStep_563 {a b L N : Nat} {σ : zS} {τ : zT} {v1 : Int32} {v2 : Int32} {s0 : Int32} {s1 : Int32} {o3 : Option Value} {o4 : Option Value} {o5 : Option Value} {r : zS} (H : zb_M_doStep_563 N σ v1 v2 s0 s1 = some r) : zx_go 3 187 563 [some (.ref 82), some (.int v1), some (.int v2), o3, o4, o5] [.int s0, .int s1, .ref 82] ((119, a, b), zx_pk (zK L) 119, σ, τ, zR) = some (none, ((119, a, b), zx_pk (zK L) 119, r, τ, zR)) := by
  unfold zb_M_doStep_563 at H
  obtain ⟨r38, hr38, H⟩ := Option.bind_eq_some_iff.mp H
  rw [zp_callVv (st := [.int s0, .int s1, .ref 82]) (as := [.ref 82, .int s1, .int s0]) (rest := []) (e := 2) zd_187_563 rfl (by decide +kernel) (by decide) rfl rfl (Nat.le_of_ble_eq_true rfl) (zx_rcb_ok rfl (show 82 < 119 by decide)) (Nat.le_of_ble_eq_true rfl) rfl (by decide) (zt_M_wake hr38)]
  rw [zs_goto (t := 618) zd_187_566 rfl]
  exact zt_M_doStep_618  H
set_option maxRecDepth 20000 in
theorem zt_M_doStep_462 {a b L N : Nat} {σ : zS} {τ : zT} {s0 : Int32} {s1 : Int32} {o0 : Option Value} {o1 : Option Value} {o2 : Option Value} {o3 : Option Value} {o4 : Option Value} {o5 : Option Value} {r : zS} (H : zb_M_doStep_462 N σ s0 s1 = some r) : zx_go 3 187 462 [o0, o1, o2, o3, o4, o5] [.int s0, .int s1, .ref 82] ((119, a, b), zx_pk (zK L) 119, σ, τ, zR) = some (none, ((119, a, b), zx_pk (zK L) 119, r, τ, zR)) := by
  unfold zb_M_doStep_462 at H
  obtain ⟨r56, hr56, H⟩ := Option.bind_eq_some_iff.mp H
  rw [zp_callVv (st := [.int s0, .int s1, .ref 82]) (as := [.ref 82, .int s1, .int s0]) (rest := []) (e := 1) zd_187_462 rfl (by decide +kernel) (by decide) rfl rfl (Nat.le_of_ble_eq_true rfl) (zx_rcb_ok rfl (show 82 < 119 by decide)) (Nat.le_of_ble_eq_true rfl) rfl (by decide) (zt_M_goTo hr56)]
  have H := Option.some.inj H
  subst H
  exact zs_return zd_187_465 (by decide +kernel)
set_option maxRecDepth 20000 in
theorem zt_M_doStep_432 {a b L N : Nat} {σ : zS} {τ : zT} {v1 : Int32} {v2 : Int32} {s0 : Int32} {s1 : Int32} {o3 : Option Value} {o4 : Option Value} {o5 : Option Value} {r : zS} (H : zb_M_doStep_432 N σ v1 v2 s0 s1 = some r) : zx_go 3 187 432 [some (.ref 82), some (.int v1), some (.int v2), o3, o4, o5] [.int s0, .int s1, .ref 107] ((119, a, b), zx_pk (zK L) 119, σ, τ, zR) = some (none, ((119, a, b), zx_pk (zK L) 119, r, τ, zR)) := by
  unfold zb_M_doStep_432 at H
  by_cases c66 : 0 ≤ s1 ∧ s1 < 40
  · rw [if_pos c66] at H
    rw [zp_iastore (n := 119) (K := zx_pk (zK L) 119) (q := 107) (m := 40) (i := s1) (k := s1.toNatClampNeg) (x := s0) (z := s0) zd_187_432 rfl ⟨by decide, by decide⟩ (zJ_in c66 rfl) rfl rfl]
    rw [zs_goto (t := 618) zd_187_433 rfl]
    exact zt_M_doStep_618  H
  · rw [if_neg c66] at H
    cases H
set_option maxRecDepth 20000 in
theorem zt_M_doStep_335 {a b L N : Nat} {σ : zS} {τ : zT} {v1 : Int32} {v2 : Int32} {s0 : Int32} {o3 : Option Value} {o4 : Option Value} {o5 : Option Value} {r : zS} (H : zb_M_doStep_335 N σ v1 v2 s0 = some r) : zx_go 3 187 335 [some (.ref 82), some (.int v1), some (.int v2), o3, o4, o5] [.int s0] ((119, a, b), zx_pk (zK L) 119, σ, τ, zR) = some (none, ((119, a, b), zx_pk (zK L) 119, r, τ, zR)) := by
  unfold zb_M_doStep_335 at H
  rw [zs_istore (x := s0) (ls' := [some (.ref 82), some (.int v1), some (.int v2), o3, (zJ_cl o4), some (.int s0)]) zd_187_335 (Nat.le_of_ble_eq_true rfl) (zJ_s1 (k := 4) (o := o4) rfl)]
  rw [zs_aload_n (ls := [some (.ref 82), some (.int v1), some (.int v2), o3, (zJ_cl o4), some (.int s0)]) zd_187_337 rfl]
  rw [zs_getR (n := 119) (K := zx_pk (zK L) 119) (ρ := zR) (c := 12) (k := 47) (q := 82) (p := 107) zd_187_338 rfl rfl rfl (by decide) rfl]
  rw [zs_aload_n (ls := [some (.ref 82), some (.int v1), some (.int v2), o3, (zJ_cl o4), some (.int s0)]) zd_187_341 rfl]
  rw [zs_iload_n (ls := [some (.ref 82), some (.int v1), some (.int v2), o3, (zJ_cl o4), some (.int s0)]) zd_187_342 rfl]
  obtain ⟨r76, hr76, H⟩ := Option.bind_eq_some_iff.mp H
  rw [zp_callVi (x := r76) (st := [.int v1, .ref 82, .ref 107]) (as := [.ref 82, .int v1]) (rest := [.ref 107]) (e := 0) zd_187_343 rfl (by decide +kernel) (by decide) rfl rfl (Nat.le_of_ble_eq_true rfl) (zx_rcb_ok rfl (show 82 < 119 by decide)) (Nat.le_of_ble_eq_true rfl) rfl (by decide) (zt_M_at hr76)]
  rw [zs_iconst (z := 2) zd_187_346 (by decide)]
  rw [zp_iadd (x := r76) (y := 2) (z := (r76 + 2)) zd_187_347 rfl]
  rw [zs_aload_n (ls := [some (.ref 82), some (.int v1), some (.int v2), o3, (zJ_cl o4), some (.int s0)]) zd_187_348 rfl]
  rw [zs_getR (n := 119) (K := zx_pk (zK L) 119) (ρ := zR) (c := 12) (k := 33) (q := 82) (p := 98) zd_187_349 rfl rfl rfl (by decide) rfl]
  rw [zs_iload_n (ls := [some (.ref 82), some (.int v1), some (.int v2), o3, (zJ_cl o4), some (.int s0)]) zd_187_352 rfl]
  by_cases c77 : 0 ≤ v2 ∧ v2 < 96
  · rw [if_pos c77] at H
    rw [zp_iaload (n := 119) (K := zx_pk (zK L) 119) (σ := σ) (q := 98) (m := 96) (i := v2) (k := v2.toNatClampNeg) (v := (σ 98 v2.toNatClampNeg)) zd_187_353 rfl (by decide) (zJ_in c77 rfl) rfl rfl]
    rw [zp_iadd (x := (r76 + 2)) (y := (σ 98 v2.toNatClampNeg)) (z := ((r76 + 2) + (σ 98 v2.toNatClampNeg))) zd_187_354 rfl]
    rw [zs_iload (ls := [some (.ref 82), some (.int v1), some (.int v2), o3, (zJ_cl o4), some (.int s0)]) zd_187_355 rfl]
    rw [zs_bipush (z := 7) zd_187_357 (by decide)]
    rw [zp_iand (x := s0) (y := 7) (z := (s0 &&& 7)) zd_187_359 rfl]
    by_cases c78 : 0 ≤ ((r76 + 2) + (σ 98 v2.toNatClampNeg)) ∧ ((r76 + 2) + (σ 98 v2.toNatClampNeg)) < 40
    · rw [if_pos c78] at H
      rw [zp_iastore (n := 119) (K := zx_pk (zK L) 119) (q := 107) (m := 40) (i := ((r76 + 2) + (σ 98 v2.toNatClampNeg))) (k := ((r76 + 2) + (σ 98 v2.toNatClampNeg)).toNatClampNeg) (x := (s0 &&& 7)) (z := (s0 &&& 7)) zd_187_360 rfl ⟨by decide, by decide⟩ (zJ_in c78 rfl) rfl rfl]
      rw [zs_goto (t := 618) zd_187_361 rfl]
      exact zt_M_doStep_618  H
    · rw [if_neg c78] at H
      cases H
  · rw [if_neg c77] at H
    cases H
set_option maxRecDepth 20000 in
theorem zt_M_doStep_139 {a b L N : Nat} {σ : zS} {τ : zT} {v1 : Int32} {v2 : Int32} {v3 : Int32} {s0 : Int32} {o4 : Option Value} {o5 : Option Value} {r : zS} (H : zb_M_doStep_139 N σ v1 v2 v3 s0 = some r) : zx_go 3 187 139 [some (.ref 82), some (.int v1), some (.int v2), some (.int v3), o4, o5] [.int s0] ((119, a, b), zx_pk (zK L) 119, σ, τ, zR) = some (none, ((119, a, b), zx_pk (zK L) 119, r, τ, zR)) := by
  unfold zb_M_doStep_139 at H
  rw [zs_istore (x := s0) (ls' := [some (.ref 82), some (.int v1), some (.int v2), some (.int v3), some (.int s0), o5]) zd_187_139 (Nat.le_of_ble_eq_true rfl) rfl]
  rw [zs_aload_n (ls := [some (.ref 82), some (.int v1), some (.int v2), some (.int v3), some (.int s0), o5]) zd_187_141 rfl]
  rw [zs_getR (n := 119) (K := zx_pk (zK L) 119) (ρ := zR) (c := 12) (k := 27) (q := 82) (p := 92) zd_187_142 rfl rfl rfl (by decide) rfl]
  rw [zs_iload_n (ls := [some (.ref 82), some (.int v1), some (.int v2), some (.int v3), some (.int s0), o5]) zd_187_145 rfl]
  by_cases c9 : 0 ≤ v2 ∧ v2 < 96
  · rw [if_pos c9] at H
    rw [zp_iaload (n := 119) (K := zx_pk (zK L) 119) (σ := σ) (q := 92) (m := 96) (i := v2) (k := v2.toNatClampNeg) (v := (σ 92 v2.toNatClampNeg)) zd_187_146 rfl (by decide) (zJ_in c9 rfl) rfl rfl]
    by_cases c10 : (σ 92 v2.toNatClampNeg) = 0
    · rw [if_pos c10] at H
      rw [zs_table (x := (σ 92 v2.toNatClampNeg)) (off := 69) (t := 216) zd_187_147 (by rw [c10]; decide) rfl]
      rw [zs_aload_n (ls := [some (.ref 82), some (.int v1), some (.int v2), some (.int v3), some (.int s0), o5]) zd_187_216 rfl]
      rw [zs_getR (n := 119) (K := zx_pk (zK L) 119) (ρ := zR) (c := 12) (k := 47) (q := 82) (p := 107) zd_187_217 rfl rfl rfl (by decide) rfl]
      rw [zs_aload_n (ls := [some (.ref 82), some (.int v1), some (.int v2), some (.int v3), some (.int s0), o5]) zd_187_220 rfl]
      rw [zs_iload_n (ls := [some (.ref 82), some (.int v1), some (.int v2), some (.int v3), some (.int s0), o5]) zd_187_221 rfl]
      obtain ⟨r86, hr86, H⟩ := Option.bind_eq_some_iff.mp H
      rw [zp_callVi (x := r86) (st := [.int v1, .ref 82, .ref 107]) (as := [.ref 82, .int v1]) (rest := [.ref 107]) (e := 0) zd_187_222 rfl (by decide +kernel) (by decide) rfl rfl (Nat.le_of_ble_eq_true rfl) (zx_rcb_ok rfl (show 82 < 119 by decide)) (Nat.le_of_ble_eq_true rfl) rfl (by decide) (zt_M_at hr86)]
      rw [zs_iconst (z := 2) zd_187_225 (by decide)]
      rw [zp_iadd (x := r86) (y := 2) (z := (r86 + 2)) zd_187_226 rfl]
      rw [zs_aload_n (ls := [some (.ref 82), some (.int v1), some (.int v2), some (.int v3), some (.int s0), o5]) zd_187_227 rfl]
      rw [zs_getR (n := 119) (K := zx_pk (zK L) 119) (ρ := zR) (c := 12) (k := 33) (q := 82) (p := 98) zd_187_228 rfl rfl rfl (by decide) rfl]
      rw [zs_iload_n (ls := [some (.ref 82), some (.int v1), some (.int v2), some (.int v3), some (.int s0), o5]) zd_187_231 rfl]
      by_cases c87 : 0 ≤ v2 ∧ v2 < 96
      · rw [if_pos c87] at H
        rw [zp_iaload (n := 119) (K := zx_pk (zK L) 119) (σ := σ) (q := 98) (m := 96) (i := v2) (k := v2.toNatClampNeg) (v := (σ 98 v2.toNatClampNeg)) zd_187_232 rfl (by decide) (zJ_in c87 rfl) rfl rfl]
        rw [zp_iadd (x := (r86 + 2)) (y := (σ 98 v2.toNatClampNeg)) (z := ((r86 + 2) + (σ 98 v2.toNatClampNeg))) zd_187_233 rfl]
        rw [zs_aload_n (ls := [some (.ref 82), some (.int v1), some (.int v2), some (.int v3), some (.int s0), o5]) zd_187_234 rfl]
        rw [zs_getR (n := 119) (K := zx_pk (zK L) 119) (ρ := zR) (c := 12) (k := 47) (q := 82) (p := 107) zd_187_235 rfl rfl rfl (by decide) rfl]
        rw [zs_iload_n (ls := [some (.ref 82), some (.int v1), some (.int v2), some (.int v3), some (.int s0), o5]) zd_187_238 rfl]
        by_cases c88 : 0 ≤ v3 ∧ v3 < 40
        · rw [if_pos c88] at H
          rw [zp_iaload (n := 119) (K := zx_pk (zK L) 119) (σ := σ) (q := 107) (m := 40) (i := v3) (k := v3.toNatClampNeg) (v := (σ 107 v3.toNatClampNeg)) zd_187_239 rfl (by decide) (zJ_in c88 rfl) rfl rfl]
          by_cases c89 : 0 ≤ ((r86 + 2) + (σ 98 v2.toNatClampNeg)) ∧ ((r86 + 2) + (σ 98 v2.toNatClampNeg)) < 40
          · rw [if_pos c89] at H
            rw [zp_iastore (n := 119) (K := zx_pk (zK L) 119) (q := 107) (m := 40) (i := ((r86 + 2) + (σ 98 v2.toNatClampNeg))) (k := ((r86 + 2) + (σ 98 v2.toNatClampNeg)).toNatClampNeg) (x := (σ 107 v3.toNatClampNeg)) (z := (σ 107 v3.toNatClampNeg)) zd_187_240 rfl ⟨by decide, by decide⟩ (zJ_in c89 rfl) rfl rfl]
            rw [zs_goto (t := 618) zd_187_241 rfl]
            exact zt_M_doStep_618  H
          · rw [if_neg c89] at H
            cases H
        · rw [if_neg c88] at H
          cases H
      · rw [if_neg c87] at H
        cases H
    · rw [if_neg c10] at H
      by_cases c11 : (σ 92 v2.toNatClampNeg) = 1
      · rw [if_pos c11] at H
        rw [zs_table (x := (σ 92 v2.toNatClampNeg)) (off := 97) (t := 244) zd_187_147 (by rw [c11]; decide) rfl]
        rw [zs_aload_n (ls := [some (.ref 82), some (.int v1), some (.int v2), some (.int v3), some (.int s0), o5]) zd_187_244 rfl]
        rw [zs_getR (n := 119) (K := zx_pk (zK L) 119) (ρ := zR) (c := 12) (k := 47) (q := 82) (p := 107) zd_187_245 rfl rfl rfl (by decide) rfl]
        rw [zs_iload_n (ls := [some (.ref 82), some (.int v1), some (.int v2), some (.int v3), some (.int s0), o5]) zd_187_248 rfl]
        rw [zs_aload_n (ls := [some (.ref 82), some (.int v1), some (.int v2), some (.int v3), some (.int s0), o5]) zd_187_249 rfl]
        rw [zs_iload_n (ls := [some (.ref 82), some (.int v1), some (.int v2), some (.int v3), some (.int s0), o5]) zd_187_250 rfl]
        rw [zs_aload_n (ls := [some (.ref 82), some (.int v1), some (.int v2), some (.int v3), some (.int s0), o5]) zd_187_251 rfl]
        rw [zs_getR (n := 119) (K := zx_pk (zK L) 119) (ρ := zR) (c := 12) (k := 34) (q := 82) (p := 99) zd_187_252 rfl rfl rfl (by decide) rfl]
        rw [zs_iload_n (ls := [some (.ref 82), some (.int v1), some (.int v2), some (.int v3), some (.int s0), o5]) zd_187_255 rfl]
        by_cases c83 : 0 ≤ v2 ∧ v2 < 96
        · rw [if_pos c83] at H
          rw [zp_iaload (n := 119) (K := zx_pk (zK L) 119) (σ := σ) (q := 99) (m := 96) (i := v2) (k := v2.toNatClampNeg) (v := (σ 99 v2.toNatClampNeg)) zd_187_256 rfl (by decide) (zJ_in c83 rfl) rfl rfl]
          obtain ⟨r84, hr84, H⟩ := Option.bind_eq_some_iff.mp H
          rw [zp_callVi (x := r84) (st := [.int (σ 99 v2.toNatClampNeg), .int v1, .ref 82, .int v3, .ref 107]) (as := [.ref 82, .int v1, .int (σ 99 v2.toNatClampNeg)]) (rest := [.int v3, .ref 107]) (e := 1) zd_187_257 rfl (by decide +kernel) (by decide) rfl rfl (Nat.le_of_ble_eq_true rfl) (zx_rcb_ok rfl (show 82 < 119 by decide)) (Nat.le_of_ble_eq_true rfl) rfl (by decide) (zt_M_valueOf hr84)]
          by_cases c85 : 0 ≤ v3 ∧ v3 < 40
          · rw [if_pos c85] at H
            rw [zp_iastore (n := 119) (K := zx_pk (zK L) 119) (q := 107) (m := 40) (i := v3) (k := v3.toNatClampNeg) (x := r84) (z := r84) zd_187_260 rfl ⟨by decide, by decide⟩ (zJ_in c85 rfl) rfl rfl]
            rw [zs_goto (t := 618) zd_187_261 rfl]
            exact zt_M_doStep_618  H
          · rw [if_neg c85] at H
            cases H
        · rw [if_neg c83] at H
          cases H
      · rw [if_neg c11] at H
        by_cases c12 : (σ 92 v2.toNatClampNeg) = 2
        · rw [if_pos c12] at H
          rw [zs_table (x := (σ 92 v2.toNatClampNeg)) (off := 117) (t := 264) zd_187_147 (by rw [c12]; decide) rfl]
          rw [zs_aload_n (ls := [some (.ref 82), some (.int v1), some (.int v2), some (.int v3), some (.int s0), o5]) zd_187_264 rfl]
          rw [zs_iload_n (ls := [some (.ref 82), some (.int v1), some (.int v2), some (.int v3), some (.int s0), o5]) zd_187_265 rfl]
          rw [zs_aload_n (ls := [some (.ref 82), some (.int v1), some (.int v2), some (.int v3), some (.int s0), o5]) zd_187_266 rfl]
          rw [zs_getR (n := 119) (K := zx_pk (zK L) 119) (ρ := zR) (c := 12) (k := 34) (q := 82) (p := 99) zd_187_267 rfl rfl rfl (by decide) rfl]
          rw [zs_iload_n (ls := [some (.ref 82), some (.int v1), some (.int v2), some (.int v3), some (.int s0), o5]) zd_187_270 rfl]
          by_cases c70 : 0 ≤ v2 ∧ v2 < 96
          · rw [if_pos c70] at H
            rw [zp_iaload (n := 119) (K := zx_pk (zK L) 119) (σ := σ) (q := 99) (m := 96) (i := v2) (k := v2.toNatClampNeg) (v := (σ 99 v2.toNatClampNeg)) zd_187_271 rfl (by decide) (zJ_in c70 rfl) rfl rfl]
            obtain ⟨r71, hr71, H⟩ := Option.bind_eq_some_iff.mp H
            rw [zp_callVi (x := r71) (st := [.int (σ 99 v2.toNatClampNeg), .int v1, .ref 82]) (as := [.ref 82, .int v1, .int (σ 99 v2.toNatClampNeg)]) (rest := []) (e := 1) zd_187_272 rfl (by decide +kernel) (by decide) rfl rfl (Nat.le_of_ble_eq_true rfl) (zx_rcb_ok rfl (show 82 < 119 by decide)) (Nat.le_of_ble_eq_true rfl) rfl (by decide) (zt_M_valueOf hr71)]
            rw [zs_istore (x := r71) (ls' := [some (.ref 82), some (.int v1), some (.int v2), some (.int v3), some (.int s0), some (.int r71)]) zd_187_275 (Nat.le_of_ble_eq_true rfl) rfl]
            rw [zs_aload_n (ls := [some (.ref 82), some (.int v1), some (.int v2), some (.int v3), some (.int s0), some (.int r71)]) zd_187_277 rfl]
            rw [zs_getR (n := 119) (K := zx_pk (zK L) 119) (ρ := zR) (c := 12) (k := 36) (q := 82) (p := 101) zd_187_278 rfl rfl rfl (by decide) rfl]
            rw [zs_iload_n (ls := [some (.ref 82), some (.int v1), some (.int v2), some (.int v3), some (.int s0), some (.int r71)]) zd_187_281 rfl]
            by_cases c72 : 0 ≤ v2 ∧ v2 < 96
            · rw [if_pos c72] at H
              rw [zp_iaload (n := 119) (K := zx_pk (zK L) 119) (σ := σ) (q := 101) (m := 96) (i := v2) (k := v2.toNatClampNeg) (v := (σ 101 v2.toNatClampNeg)) zd_187_282 rfl (by decide) (zJ_in c72 rfl) rfl rfl]
              rw [zs_bipush (z := 43) zd_187_283 (by decide)]
              by_cases c73 : ¬ (σ 101 v2.toNatClampNeg) = 43
              · rw [if_pos c73] at H
                rw [zp_icmp_ne_t (x := (σ 101 v2.toNatClampNeg)) (y := 43) (t := 305) zd_187_285 rfl c73]
                rw [zs_aload_n (ls := [some (.ref 82), some (.int v1), some (.int v2), some (.int v3), some (.int s0), some (.int r71)]) zd_187_305 rfl]
                rw [zs_getR (n := 119) (K := zx_pk (zK L) 119) (ρ := zR) (c := 12) (k := 36) (q := 82) (p := 101) zd_187_306 rfl rfl rfl (by decide) rfl]
                rw [zs_iload_n (ls := [some (.ref 82), some (.int v1), some (.int v2), some (.int v3), some (.int s0), some (.int r71)]) zd_187_309 rfl]
                by_cases c74 : 0 ≤ v2 ∧ v2 < 96
                · rw [if_pos c74] at H
                  rw [zp_iaload (n := 119) (K := zx_pk (zK L) 119) (σ := σ) (q := 101) (m := 96) (i := v2) (k := v2.toNatClampNeg) (v := (σ 101 v2.toNatClampNeg)) zd_187_310 rfl (by decide) (zJ_in c74 rfl) rfl rfl]
                  rw [zs_bipush (z := 45) zd_187_311 (by decide)]
                  by_cases c75 : ¬ (σ 101 v2.toNatClampNeg) = 45
                  · rw [if_pos c75] at H
                    rw [zp_icmp_ne_t (x := (σ 101 v2.toNatClampNeg)) (y := 45) (t := 333) zd_187_313 rfl c75]
                    rw [zs_iload (ls := [some (.ref 82), some (.int v1), some (.int v2), some (.int v3), some (.int s0), some (.int r71)]) zd_187_333 rfl]
                    exact zt_M_doStep_335  H
                  · rw [if_neg c75] at H
                    rw [zp_icmp_ne_f (x := (σ 101 v2.toNatClampNeg)) (y := 45) (t := 333) zd_187_313 rfl c75]
                    rw [zs_iload (ls := [some (.ref 82), some (.int v1), some (.int v2), some (.int v3), some (.int s0), some (.int r71)]) zd_187_316 rfl]
                    rw [zs_aload_n (ls := [some (.ref 82), some (.int v1), some (.int v2), some (.int v3), some (.int s0), some (.int r71)]) zd_187_318 rfl]
                    rw [zs_iload_n (ls := [some (.ref 82), some (.int v1), some (.int v2), some (.int v3), some (.int s0), some (.int r71)]) zd_187_319 rfl]
                    rw [zs_aload_n (ls := [some (.ref 82), some (.int v1), some (.int v2), some (.int v3), some (.int s0), some (.int r71)]) zd_187_320 rfl]
                    rw [zs_getR (n := 119) (K := zx_pk (zK L) 119) (ρ := zR) (c := 12) (k := 35) (q := 82) (p := 100) zd_187_321 rfl rfl rfl (by decide) rfl]
                    rw [zs_iload_n (ls := [some (.ref 82), some (.int v1), some (.int v2), some (.int v3), some (.int s0), some (.int r71)]) zd_187_324 rfl]
                    by_cases c79 : 0 ≤ v2 ∧ v2 < 96
                    · rw [if_pos c79] at H
                      rw [zp_iaload (n := 119) (K := zx_pk (zK L) 119) (σ := σ) (q := 100) (m := 96) (i := v2) (k := v2.toNatClampNeg) (v := (σ 100 v2.toNatClampNeg)) zd_187_325 rfl (by decide) (zJ_in c79 rfl) rfl rfl]
                      obtain ⟨r80, hr80, H⟩ := Option.bind_eq_some_iff.mp H
                      rw [zp_callVi (x := r80) (st := [.int (σ 100 v2.toNatClampNeg), .int v1, .ref 82, .int r71]) (as := [.ref 82, .int v1, .int (σ 100 v2.toNatClampNeg)]) (rest := [.int r71]) (e := 1) zd_187_326 rfl (by decide +kernel) (by decide) rfl rfl (Nat.le_of_ble_eq_true rfl) (zx_rcb_ok rfl (show 82 < 119 by decide)) (Nat.le_of_ble_eq_true rfl) rfl (by decide) (zt_M_valueOf hr80)]
                      rw [zp_isub (x := r71) (y := r80) (z := (r71 - r80)) zd_187_329 rfl]
                      rw [zs_goto (t := 335) zd_187_330 rfl]
                      exact zt_M_doStep_335  H
                    · rw [if_neg c79] at H
                      cases H
                · rw [if_neg c74] at H
                  cases H
              · rw [if_neg c73] at H
                rw [zp_icmp_ne_f (x := (σ 101 v2.toNatClampNeg)) (y := 43) (t := 305) zd_187_285 rfl c73]
                rw [zs_iload (ls := [some (.ref 82), some (.int v1), some (.int v2), some (.int v3), some (.int s0), some (.int r71)]) zd_187_288 rfl]
                rw [zs_aload_n (ls := [some (.ref 82), some (.int v1), some (.int v2), some (.int v3), some (.int s0), some (.int r71)]) zd_187_290 rfl]
                rw [zs_iload_n (ls := [some (.ref 82), some (.int v1), some (.int v2), some (.int v3), some (.int s0), some (.int r71)]) zd_187_291 rfl]
                rw [zs_aload_n (ls := [some (.ref 82), some (.int v1), some (.int v2), some (.int v3), some (.int s0), some (.int r71)]) zd_187_292 rfl]
                rw [zs_getR (n := 119) (K := zx_pk (zK L) 119) (ρ := zR) (c := 12) (k := 35) (q := 82) (p := 100) zd_187_293 rfl rfl rfl (by decide) rfl]
                rw [zs_iload_n (ls := [some (.ref 82), some (.int v1), some (.int v2), some (.int v3), some (.int s0), some (.int r71)]) zd_187_296 rfl]
                by_cases c81 : 0 ≤ v2 ∧ v2 < 96
                · rw [if_pos c81] at H
                  rw [zp_iaload (n := 119) (K := zx_pk (zK L) 119) (σ := σ) (q := 100) (m := 96) (i := v2) (k := v2.toNatClampNeg) (v := (σ 100 v2.toNatClampNeg)) zd_187_297 rfl (by decide) (zJ_in c81 rfl) rfl rfl]
                  obtain ⟨r82, hr82, H⟩ := Option.bind_eq_some_iff.mp H
                  rw [zp_callVi (x := r82) (st := [.int (σ 100 v2.toNatClampNeg), .int v1, .ref 82, .int r71]) (as := [.ref 82, .int v1, .int (σ 100 v2.toNatClampNeg)]) (rest := [.int r71]) (e := 1) zd_187_298 rfl (by decide +kernel) (by decide) rfl rfl (Nat.le_of_ble_eq_true rfl) (zx_rcb_ok rfl (show 82 < 119 by decide)) (Nat.le_of_ble_eq_true rfl) rfl (by decide) (zt_M_valueOf hr82)]
                  rw [zp_iadd (x := r71) (y := r82) (z := (r71 + r82)) zd_187_301 rfl]
                  rw [zs_goto (t := 335) zd_187_302 rfl]
                  exact zt_M_doStep_335  H
                · rw [if_neg c81] at H
                  cases H
            · rw [if_neg c72] at H
              cases H
          · rw [if_neg c70] at H
            cases H
        · rw [if_neg c12] at H
          by_cases c13 : (σ 92 v2.toNatClampNeg) = 3
          · rw [if_pos c13] at H
            rw [zs_table (x := (σ 92 v2.toNatClampNeg)) (off := 217) (t := 364) zd_187_147 (by rw [c13]; decide) rfl]
            rw [zs_aload_n (ls := [some (.ref 82), some (.int v1), some (.int v2), some (.int v3), some (.int s0), o5]) zd_187_364 rfl]
            rw [zs_getR (n := 119) (K := zx_pk (zK L) 119) (ρ := zR) (c := 12) (k := 47) (q := 82) (p := 107) zd_187_365 rfl rfl rfl (by decide) rfl]
            rw [zs_bipush (z := 6) zd_187_368 (by decide)]
            rw [zs_iload_n (ls := [some (.ref 82), some (.int v1), some (.int v2), some (.int v3), some (.int s0), o5]) zd_187_370 rfl]
            rw [zp_iadd (x := 6) (y := v3) (z := (6 + v3)) zd_187_371 rfl]
            rw [zs_iload_n (ls := [some (.ref 82), some (.int v1), some (.int v2), some (.int v3), some (.int s0), o5]) zd_187_372 rfl]
            rw [zs_iconst (z := 1) zd_187_373 (by decide)]
            rw [zp_iadd (x := v1) (y := 1) (z := (v1 + 1)) zd_187_374 rfl]
            by_cases c67 : 0 ≤ (6 + v3) ∧ (6 + v3) < 40
            · rw [if_pos c67] at H
              rw [zp_iastore (n := 119) (K := zx_pk (zK L) 119) (q := 107) (m := 40) (i := (6 + v3)) (k := (6 + v3).toNatClampNeg) (x := (v1 + 1)) (z := (v1 + 1)) zd_187_375 rfl ⟨by decide, by decide⟩ (zJ_in c67 rfl) rfl rfl]
              rw [zs_aload_n (ls := [some (.ref 82), some (.int v1), some (.int v2), some (.int v3), some (.int s0), o5]) zd_187_376 rfl]
              rw [zs_getR (n := 119) (K := zx_pk (zK L) 119) (ρ := zR) (c := 12) (k := 47) (q := 82) (p := 107) zd_187_377 rfl rfl rfl (by decide) rfl]
              rw [zs_bipush (z := 10) zd_187_380 (by decide)]
              rw [zs_iload_n (ls := [some (.ref 82), some (.int v1), some (.int v2), some (.int v3), some (.int s0), o5]) zd_187_382 rfl]
              rw [zp_iadd (x := 10) (y := v3) (z := (10 + v3)) zd_187_383 rfl]
              rw [zs_dup2 (a := .int (10 + v3)) (b := .ref 107) zd_187_384 ⟨rfl, rfl⟩]
              by_cases c68 : 0 ≤ (10 + v3) ∧ (10 + v3) < 40
              · rw [if_pos c68] at H
                rw [zp_iaload (n := 119) (K := zx_pk (zK L) 119) (σ := (zx_up σ 107 (6 + v3).toNatClampNeg (v1 + 1))) (q := 107) (m := 40) (i := (10 + v3)) (k := (10 + v3).toNatClampNeg) (v := ((zx_up σ 107 (6 + v3).toNatClampNeg (v1 + 1)) 107 (10 + v3).toNatClampNeg)) zd_187_385 rfl (by decide) (zJ_in c68 rfl) rfl rfl]
                rw [zs_iconst (z := 1) zd_187_386 (by decide)]
                rw [zp_iadd (x := ((zx_up σ 107 (6 + v3).toNatClampNeg (v1 + 1)) 107 (10 + v3).toNatClampNeg)) (y := 1) (z := (((zx_up σ 107 (6 + v3).toNatClampNeg (v1 + 1)) 107 (10 + v3).toNatClampNeg) + 1)) zd_187_387 rfl]
                by_cases c69 : 0 ≤ (10 + v3) ∧ (10 + v3) < 40
                · rw [if_pos c69] at H
                  rw [zp_iastore (n := 119) (K := zx_pk (zK L) 119) (q := 107) (m := 40) (i := (10 + v3)) (k := (10 + v3).toNatClampNeg) (x := (((zx_up σ 107 (6 + v3).toNatClampNeg (v1 + 1)) 107 (10 + v3).toNatClampNeg) + 1)) (z := (((zx_up σ 107 (6 + v3).toNatClampNeg (v1 + 1)) 107 (10 + v3).toNatClampNeg) + 1)) zd_187_388 rfl ⟨by decide, by decide⟩ (zJ_in c69 rfl) rfl rfl]
                  rw [zs_goto (t := 618) zd_187_389 rfl]
                  exact zt_M_doStep_618  H
                · rw [if_neg c69] at H
                  cases H
              · rw [if_neg c68] at H
                cases H
            · rw [if_neg c67] at H
              cases H
          · rw [if_neg c13] at H
            by_cases c14 : (σ 92 v2.toNatClampNeg) = 4
            · rw [if_pos c14] at H
              rw [zs_table (x := (σ 92 v2.toNatClampNeg)) (off := 245) (t := 392) zd_187_147 (by rw [c14]; decide) rfl]
              rw [zs_aload_n (ls := [some (.ref 82), some (.int v1), some (.int v2), some (.int v3), some (.int s0), o5]) zd_187_392 rfl]
              rw [zs_getR (n := 119) (K := zx_pk (zK L) 119) (ρ := zR) (c := 12) (k := 47) (q := 82) (p := 107) zd_187_393 rfl rfl rfl (by decide) rfl]
              rw [zs_bipush (z := 10) zd_187_396 (by decide)]
              rw [zs_iload_n (ls := [some (.ref 82), some (.int v1), some (.int v2), some (.int v3), some (.int s0), o5]) zd_187_398 rfl]
              rw [zp_iadd (x := 10) (y := v3) (z := (10 + v3)) zd_187_399 rfl]
              rw [zs_dup2 (a := .int (10 + v3)) (b := .ref 107) zd_187_400 ⟨rfl, rfl⟩]
              by_cases c62 : 0 ≤ (10 + v3) ∧ (10 + v3) < 40
              · rw [if_pos c62] at H
                rw [zp_iaload (n := 119) (K := zx_pk (zK L) 119) (σ := σ) (q := 107) (m := 40) (i := (10 + v3)) (k := (10 + v3).toNatClampNeg) (v := (σ 107 (10 + v3).toNatClampNeg)) zd_187_401 rfl (by decide) (zJ_in c62 rfl) rfl rfl]
                rw [zs_iconst (z := 1) zd_187_402 (by decide)]
                rw [zp_isub (x := (σ 107 (10 + v3).toNatClampNeg)) (y := 1) (z := ((σ 107 (10 + v3).toNatClampNeg) - 1)) zd_187_403 rfl]
                by_cases c63 : 0 ≤ (10 + v3) ∧ (10 + v3) < 40
                · rw [if_pos c63] at H
                  rw [zp_iastore (n := 119) (K := zx_pk (zK L) 119) (q := 107) (m := 40) (i := (10 + v3)) (k := (10 + v3).toNatClampNeg) (x := ((σ 107 (10 + v3).toNatClampNeg) - 1)) (z := ((σ 107 (10 + v3).toNatClampNeg) - 1)) zd_187_404 rfl ⟨by decide, by decide⟩ (zJ_in c63 rfl) rfl rfl]
                  rw [zs_aload_n (ls := [some (.ref 82), some (.int v1), some (.int v2), some (.int v3), some (.int s0), o5]) zd_187_405 rfl]
                  rw [zs_getR (n := 119) (K := zx_pk (zK L) 119) (ρ := zR) (c := 12) (k := 47) (q := 82) (p := 107) zd_187_406 rfl rfl rfl (by decide) rfl]
                  rw [zs_bipush (z := 6) zd_187_409 (by decide)]
                  rw [zs_iload_n (ls := [some (.ref 82), some (.int v1), some (.int v2), some (.int v3), some (.int s0), o5]) zd_187_411 rfl]
                  rw [zp_iadd (x := 6) (y := v3) (z := (6 + v3)) zd_187_412 rfl]
                  rw [zs_aload_n (ls := [some (.ref 82), some (.int v1), some (.int v2), some (.int v3), some (.int s0), o5]) zd_187_413 rfl]
                  rw [zs_getR (n := 119) (K := zx_pk (zK L) 119) (ρ := zR) (c := 12) (k := 47) (q := 82) (p := 107) zd_187_414 rfl rfl rfl (by decide) rfl]
                  rw [zs_bipush (z := 10) zd_187_417 (by decide)]
                  rw [zs_iload_n (ls := [some (.ref 82), some (.int v1), some (.int v2), some (.int v3), some (.int s0), o5]) zd_187_419 rfl]
                  rw [zp_iadd (x := 10) (y := v3) (z := (10 + v3)) zd_187_420 rfl]
                  by_cases c64 : 0 ≤ (10 + v3) ∧ (10 + v3) < 40
                  · rw [if_pos c64] at H
                    rw [zp_iaload (n := 119) (K := zx_pk (zK L) 119) (σ := (zx_up σ 107 (10 + v3).toNatClampNeg ((σ 107 (10 + v3).toNatClampNeg) - 1))) (q := 107) (m := 40) (i := (10 + v3)) (k := (10 + v3).toNatClampNeg) (v := ((σ 107 (10 + v3).toNatClampNeg) - 1)) zd_187_421 rfl (by decide) (zJ_in c64 rfl) rfl (show ((zx_up σ 107 (10 + v3).toNatClampNeg ((σ 107 (10 + v3).toNatClampNeg) - 1)) : zS) 107 (10 + v3).toNatClampNeg = ((σ 107 (10 + v3).toNatClampNeg) - 1) from zx_up_at)]
                    by_cases c65 : ¬ ((σ 107 (10 + v3).toNatClampNeg) - 1) = 0
                    · rw [if_pos c65] at H
                      rw [zp_if_ne_t (x := ((σ 107 (10 + v3).toNatClampNeg) - 1)) (t := 429) zd_187_422 rfl c65]
                      rw [zs_iload_n (ls := [some (.ref 82), some (.int v1), some (.int v2), some (.int v3), some (.int s0), o5]) zd_187_429 rfl]
                      rw [zs_iconst (z := 1) zd_187_430 (by decide)]
                      rw [zp_iadd (x := v1) (y := 1) (z := (v1 + 1)) zd_187_431 rfl]
                      exact zt_M_doStep_432  H
                    · rw [if_neg c65] at H
                      rw [zp_if_ne_f (x := ((σ 107 (10 + v3).toNatClampNeg) - 1)) (t := 429) zd_187_422 rfl c65]
                      rw [zs_iconst (z := 0) zd_187_425 (by decide)]
                      rw [zs_goto (t := 432) zd_187_426 rfl]
                      exact zt_M_doStep_432  H
                  · rw [if_neg c64] at H
                    cases H
                · rw [if_neg c63] at H
                  cases H
              · rw [if_neg c62] at H
                cases H
            · rw [if_neg c14] at H
              by_cases c15 : (σ 92 v2.toNatClampNeg) = 5
              · rw [if_pos c15] at H
                rw [zs_table (x := (σ 92 v2.toNatClampNeg)) (off := 289) (t := 436) zd_187_147 (by rw [c15]; decide) rfl]
                rw [zs_aload_n (ls := [some (.ref 82), some (.int v1), some (.int v2), some (.int v3), some (.int s0), o5]) zd_187_436 rfl]
                rw [zs_iload_n (ls := [some (.ref 82), some (.int v1), some (.int v2), some (.int v3), some (.int s0), o5]) zd_187_437 rfl]
                rw [zs_aload_n (ls := [some (.ref 82), some (.int v1), some (.int v2), some (.int v3), some (.int s0), o5]) zd_187_438 rfl]
                rw [zs_iload_n (ls := [some (.ref 82), some (.int v1), some (.int v2), some (.int v3), some (.int s0), o5]) zd_187_439 rfl]
                rw [zs_iload_n (ls := [some (.ref 82), some (.int v1), some (.int v2), some (.int v3), some (.int s0), o5]) zd_187_440 rfl]
                obtain ⟨r58, hr58, H⟩ := Option.bind_eq_some_iff.mp H
                rw [zp_callVi (x := r58) (st := [.int v2, .int v1, .ref 82, .int v1, .ref 82]) (as := [.ref 82, .int v1, .int v2]) (rest := [.int v1, .ref 82]) (e := 2) zd_187_441 rfl (by decide +kernel) (by decide) rfl rfl (Nat.le_of_ble_eq_true rfl) (zx_rcb_ok rfl (show 82 < 119 by decide)) (Nat.le_of_ble_eq_true rfl) rfl (by decide) (zt_M_isSo hr58)]
                by_cases c59 : r58 = 0
                · rw [if_pos c59] at H
                  rw [zp_if_eq_t (x := r58) (t := 456) zd_187_444 rfl c59]
                  rw [zs_aload_n (ls := [some (.ref 82), some (.int v1), some (.int v2), some (.int v3), some (.int s0), o5]) zd_187_456 rfl]
                  rw [zs_getR (n := 119) (K := zx_pk (zK L) 119) (ρ := zR) (c := 12) (k := 30) (q := 82) (p := 95) zd_187_457 rfl rfl rfl (by decide) rfl]
                  rw [zs_iload_n (ls := [some (.ref 82), some (.int v1), some (.int v2), some (.int v3), some (.int s0), o5]) zd_187_460 rfl]
                  by_cases c60 : 0 ≤ v2 ∧ v2 < 96
                  · rw [if_pos c60] at H
                    rw [zp_iaload (n := 119) (K := zx_pk (zK L) 119) (σ := σ) (q := 95) (m := 96) (i := v2) (k := v2.toNatClampNeg) (v := (σ 95 v2.toNatClampNeg)) zd_187_461 rfl (by decide) (zJ_in c60 rfl) rfl rfl]
                    exact zt_M_doStep_462  H
                  · rw [if_neg c60] at H
                    cases H
                · rw [if_neg c59] at H
                  rw [zp_if_eq_f (x := r58) (t := 456) zd_187_444 rfl c59]
                  rw [zs_aload_n (ls := [some (.ref 82), some (.int v1), some (.int v2), some (.int v3), some (.int s0), o5]) zd_187_447 rfl]
                  rw [zs_getR (n := 119) (K := zx_pk (zK L) 119) (ρ := zR) (c := 12) (k := 29) (q := 82) (p := 94) zd_187_448 rfl rfl rfl (by decide) rfl]
                  rw [zs_iload_n (ls := [some (.ref 82), some (.int v1), some (.int v2), some (.int v3), some (.int s0), o5]) zd_187_451 rfl]
                  by_cases c61 : 0 ≤ v2 ∧ v2 < 96
                  · rw [if_pos c61] at H
                    rw [zp_iaload (n := 119) (K := zx_pk (zK L) 119) (σ := σ) (q := 94) (m := 96) (i := v2) (k := v2.toNatClampNeg) (v := (σ 94 v2.toNatClampNeg)) zd_187_452 rfl (by decide) (zJ_in c61 rfl) rfl rfl]
                    rw [zs_goto (t := 462) zd_187_453 rfl]
                    exact zt_M_doStep_462  H
                  · rw [if_neg c61] at H
                    cases H
              · rw [if_neg c15] at H
                by_cases c16 : (σ 92 v2.toNatClampNeg) = 6
                · rw [if_pos c16] at H
                  rw [zs_table (x := (σ 92 v2.toNatClampNeg)) (off := 289) (t := 436) zd_187_147 (by rw [c16]; decide) rfl]
                  rw [zs_aload_n (ls := [some (.ref 82), some (.int v1), some (.int v2), some (.int v3), some (.int s0), o5]) zd_187_436 rfl]
                  rw [zs_iload_n (ls := [some (.ref 82), some (.int v1), some (.int v2), some (.int v3), some (.int s0), o5]) zd_187_437 rfl]
                  rw [zs_aload_n (ls := [some (.ref 82), some (.int v1), some (.int v2), some (.int v3), some (.int s0), o5]) zd_187_438 rfl]
                  rw [zs_iload_n (ls := [some (.ref 82), some (.int v1), some (.int v2), some (.int v3), some (.int s0), o5]) zd_187_439 rfl]
                  rw [zs_iload_n (ls := [some (.ref 82), some (.int v1), some (.int v2), some (.int v3), some (.int s0), o5]) zd_187_440 rfl]
                  obtain ⟨r53, hr53, H⟩ := Option.bind_eq_some_iff.mp H
                  rw [zp_callVi (x := r53) (st := [.int v2, .int v1, .ref 82, .int v1, .ref 82]) (as := [.ref 82, .int v1, .int v2]) (rest := [.int v1, .ref 82]) (e := 2) zd_187_441 rfl (by decide +kernel) (by decide) rfl rfl (Nat.le_of_ble_eq_true rfl) (zx_rcb_ok rfl (show 82 < 119 by decide)) (Nat.le_of_ble_eq_true rfl) rfl (by decide) (zt_M_isSo hr53)]
                  by_cases c54 : r53 = 0
                  · rw [if_pos c54] at H
                    rw [zp_if_eq_t (x := r53) (t := 456) zd_187_444 rfl c54]
                    rw [zs_aload_n (ls := [some (.ref 82), some (.int v1), some (.int v2), some (.int v3), some (.int s0), o5]) zd_187_456 rfl]
                    rw [zs_getR (n := 119) (K := zx_pk (zK L) 119) (ρ := zR) (c := 12) (k := 30) (q := 82) (p := 95) zd_187_457 rfl rfl rfl (by decide) rfl]
                    rw [zs_iload_n (ls := [some (.ref 82), some (.int v1), some (.int v2), some (.int v3), some (.int s0), o5]) zd_187_460 rfl]
                    by_cases c55 : 0 ≤ v2 ∧ v2 < 96
                    · rw [if_pos c55] at H
                      rw [zp_iaload (n := 119) (K := zx_pk (zK L) 119) (σ := σ) (q := 95) (m := 96) (i := v2) (k := v2.toNatClampNeg) (v := (σ 95 v2.toNatClampNeg)) zd_187_461 rfl (by decide) (zJ_in c55 rfl) rfl rfl]
                      exact zt_M_doStep_462  H
                    · rw [if_neg c55] at H
                      cases H
                  · rw [if_neg c54] at H
                    rw [zp_if_eq_f (x := r53) (t := 456) zd_187_444 rfl c54]
                    rw [zs_aload_n (ls := [some (.ref 82), some (.int v1), some (.int v2), some (.int v3), some (.int s0), o5]) zd_187_447 rfl]
                    rw [zs_getR (n := 119) (K := zx_pk (zK L) 119) (ρ := zR) (c := 12) (k := 29) (q := 82) (p := 94) zd_187_448 rfl rfl rfl (by decide) rfl]
                    rw [zs_iload_n (ls := [some (.ref 82), some (.int v1), some (.int v2), some (.int v3), some (.int s0), o5]) zd_187_451 rfl]
                    by_cases c57 : 0 ≤ v2 ∧ v2 < 96
                    · rw [if_pos c57] at H
                      rw [zp_iaload (n := 119) (K := zx_pk (zK L) 119) (σ := σ) (q := 94) (m := 96) (i := v2) (k := v2.toNatClampNeg) (v := (σ 94 v2.toNatClampNeg)) zd_187_452 rfl (by decide) (zJ_in c57 rfl) rfl rfl]
                      rw [zs_goto (t := 462) zd_187_453 rfl]
                      exact zt_M_doStep_462  H
                    · rw [if_neg c57] at H
                      cases H
                · rw [if_neg c16] at H
                  by_cases c17 : (σ 92 v2.toNatClampNeg) = 7
                  · rw [if_pos c17] at H
                    rw [zs_table (x := (σ 92 v2.toNatClampNeg)) (off := 319) (t := 466) zd_187_147 (by rw [c17]; decide) rfl]
                    rw [zs_iload (ls := [some (.ref 82), some (.int v1), some (.int v2), some (.int v3), some (.int s0), o5]) zd_187_466 rfl]
                    by_cases c44 : s0 = 0
                    · rw [if_pos c44] at H
                      rw [zp_if_eq_t (x := s0) (t := 528) zd_187_468 rfl c44]
                      rw [zs_aload_n (ls := [some (.ref 82), some (.int v1), some (.int v2), some (.int v3), some (.int s0), o5]) zd_187_528 rfl]
                      rw [zs_iload_n (ls := [some (.ref 82), some (.int v1), some (.int v2), some (.int v3), some (.int s0), o5]) zd_187_529 rfl]
                      obtain ⟨r45, hr45, H⟩ := Option.bind_eq_some_iff.mp H
                      rw [zp_callVv (st := [.int v1, .ref 82]) (as := [.ref 82, .int v1]) (rest := []) (e := 1) zd_187_530 rfl (by decide +kernel) (by decide) rfl rfl (Nat.le_of_ble_eq_true rfl) (zx_rcb_ok rfl (show 82 < 119 by decide)) (Nat.le_of_ble_eq_true rfl) rfl (by decide) (zt_M_failing hr45)]
                      have H := Option.some.inj H
                      subst H
                      exact zs_return zd_187_533 (by decide +kernel)
                    · rw [if_neg c44] at H
                      rw [zp_if_eq_f (x := s0) (t := 528) zd_187_468 rfl c44]
                      rw [zs_aload_n (ls := [some (.ref 82), some (.int v1), some (.int v2), some (.int v3), some (.int s0), o5]) zd_187_471 rfl]
                      rw [zs_getR (n := 119) (K := zx_pk (zK L) 119) (ρ := zR) (c := 12) (k := 47) (q := 82) (p := 107) zd_187_472 rfl rfl rfl (by decide) rfl]
                      rw [zs_aload_n (ls := [some (.ref 82), some (.int v1), some (.int v2), some (.int v3), some (.int s0), o5]) zd_187_475 rfl]
                      rw [zs_iload_n (ls := [some (.ref 82), some (.int v1), some (.int v2), some (.int v3), some (.int s0), o5]) zd_187_476 rfl]
                      obtain ⟨r46, hr46, H⟩ := Option.bind_eq_some_iff.mp H
                      rw [zp_callVi (x := r46) (st := [.int v1, .ref 82, .ref 107]) (as := [.ref 82, .int v1]) (rest := [.ref 107]) (e := 0) zd_187_477 rfl (by decide +kernel) (by decide) rfl rfl (Nat.le_of_ble_eq_true rfl) (zx_rcb_ok rfl (show 82 < 119 by decide)) (Nat.le_of_ble_eq_true rfl) rfl (by decide) (zt_M_at hr46)]
                      rw [zs_iconst (z := 5) zd_187_480 (by decide)]
                      rw [zp_iadd (x := r46) (y := 5) (z := (r46 + 5)) zd_187_481 rfl]
                      rw [zs_aload_n (ls := [some (.ref 82), some (.int v1), some (.int v2), some (.int v3), some (.int s0), o5]) zd_187_482 rfl]
                      rw [zs_getR (n := 119) (K := zx_pk (zK L) 119) (ρ := zR) (c := 12) (k := 47) (q := 82) (p := 107) zd_187_483 rfl rfl rfl (by decide) rfl]
                      rw [zs_bipush (z := 10) zd_187_486 (by decide)]
                      rw [zs_iload_n (ls := [some (.ref 82), some (.int v1), some (.int v2), some (.int v3), some (.int s0), o5]) zd_187_488 rfl]
                      rw [zp_iadd (x := 10) (y := v3) (z := (10 + v3)) zd_187_489 rfl]
                      by_cases c47 : 0 ≤ (10 + v3) ∧ (10 + v3) < 40
                      · rw [if_pos c47] at H
                        rw [zp_iaload (n := 119) (K := zx_pk (zK L) 119) (σ := σ) (q := 107) (m := 40) (i := (10 + v3)) (k := (10 + v3).toNatClampNeg) (v := (σ 107 (10 + v3).toNatClampNeg)) zd_187_490 rfl (by decide) (zJ_in c47 rfl) rfl rfl]
                        by_cases c48 : 0 ≤ (r46 + 5) ∧ (r46 + 5) < 40
                        · rw [if_pos c48] at H
                          rw [zp_iastore (n := 119) (K := zx_pk (zK L) 119) (q := 107) (m := 40) (i := (r46 + 5)) (k := (r46 + 5).toNatClampNeg) (x := (σ 107 (10 + v3).toNatClampNeg)) (z := (σ 107 (10 + v3).toNatClampNeg)) zd_187_491 rfl ⟨by decide, by decide⟩ (zJ_in c48 rfl) rfl rfl]
                          rw [zs_aload_n (ls := [some (.ref 82), some (.int v1), some (.int v2), some (.int v3), some (.int s0), o5]) zd_187_492 rfl]
                          rw [zs_getR (n := 119) (K := zx_pk (zK L) 119) (ρ := zR) (c := 12) (k := 47) (q := 82) (p := 107) zd_187_493 rfl rfl rfl (by decide) rfl]
                          rw [zs_bipush (z := 6) zd_187_496 (by decide)]
                          rw [zs_iload_n (ls := [some (.ref 82), some (.int v1), some (.int v2), some (.int v3), some (.int s0), o5]) zd_187_498 rfl]
                          rw [zp_iadd (x := 6) (y := v3) (z := (6 + v3)) zd_187_499 rfl]
                          rw [zs_iconst (z := 0) zd_187_500 (by decide)]
                          by_cases c49 : 0 ≤ (6 + v3) ∧ (6 + v3) < 40
                          · rw [if_pos c49] at H
                            rw [zp_iastore (n := 119) (K := zx_pk (zK L) 119) (q := 107) (m := 40) (i := (6 + v3)) (k := (6 + v3).toNatClampNeg) (x := 0) (z := 0) zd_187_501 rfl ⟨by decide, by decide⟩ (zJ_in c49 rfl) rfl rfl]
                            rw [zs_aload_n (ls := [some (.ref 82), some (.int v1), some (.int v2), some (.int v3), some (.int s0), o5]) zd_187_502 rfl]
                            rw [zs_getR (n := 119) (K := zx_pk (zK L) 119) (ρ := zR) (c := 12) (k := 47) (q := 82) (p := 107) zd_187_503 rfl rfl rfl (by decide) rfl]
                            rw [zs_bipush (z := 10) zd_187_506 (by decide)]
                            rw [zs_iload_n (ls := [some (.ref 82), some (.int v1), some (.int v2), some (.int v3), some (.int s0), o5]) zd_187_508 rfl]
                            rw [zp_iadd (x := 10) (y := v3) (z := (10 + v3)) zd_187_509 rfl]
                            rw [zs_iconst (z := 0) zd_187_510 (by decide)]
                            by_cases c50 : 0 ≤ (10 + v3) ∧ (10 + v3) < 40
                            · rw [if_pos c50] at H
                              rw [zp_iastore (n := 119) (K := zx_pk (zK L) 119) (q := 107) (m := 40) (i := (10 + v3)) (k := (10 + v3).toNatClampNeg) (x := 0) (z := 0) zd_187_511 rfl ⟨by decide, by decide⟩ (zJ_in c50 rfl) rfl rfl]
                              rw [zs_aload_n (ls := [some (.ref 82), some (.int v1), some (.int v2), some (.int v3), some (.int s0), o5]) zd_187_512 rfl]
                              rw [zs_getR (n := 119) (K := zx_pk (zK L) 119) (ρ := zR) (c := 12) (k := 47) (q := 82) (p := 107) zd_187_513 rfl rfl rfl (by decide) rfl]
                              rw [zs_aload_n (ls := [some (.ref 82), some (.int v1), some (.int v2), some (.int v3), some (.int s0), o5]) zd_187_516 rfl]
                              rw [zs_iload_n (ls := [some (.ref 82), some (.int v1), some (.int v2), some (.int v3), some (.int s0), o5]) zd_187_517 rfl]
                              obtain ⟨r51, hr51, H⟩ := Option.bind_eq_some_iff.mp H
                              rw [zp_callVi (x := r51) (st := [.int v1, .ref 82, .ref 107]) (as := [.ref 82, .int v1]) (rest := [.ref 107]) (e := 0) zd_187_518 rfl (by decide +kernel) (by decide) rfl rfl (Nat.le_of_ble_eq_true rfl) (zx_rcb_ok rfl (show 82 < 119 by decide)) (Nat.le_of_ble_eq_true rfl) rfl (by decide) (zt_M_at hr51)]
                              rw [zs_iconst (z := 1) zd_187_521 (by decide)]
                              rw [zp_iadd (x := r51) (y := 1) (z := (r51 + 1)) zd_187_522 rfl]
                              rw [zs_iconst (z := 2) zd_187_523 (by decide)]
                              by_cases c52 : 0 ≤ (r51 + 1) ∧ (r51 + 1) < 40
                              · rw [if_pos c52] at H
                                rw [zp_iastore (n := 119) (K := zx_pk (zK L) 119) (q := 107) (m := 40) (i := (r51 + 1)) (k := (r51 + 1).toNatClampNeg) (x := 2) (z := 2) zd_187_524 rfl ⟨by decide, by decide⟩ (zJ_in c52 rfl) rfl rfl]
                                rw [zs_goto (t := 533) zd_187_525 rfl]
                                have H := Option.some.inj H
                                subst H
                                exact zs_return zd_187_533 (by decide +kernel)
                              · rw [if_neg c52] at H
                                cases H
                            · rw [if_neg c50] at H
                              cases H
                          · rw [if_neg c49] at H
                            cases H
                        · rw [if_neg c48] at H
                          cases H
                      · rw [if_neg c47] at H
                        cases H
                  · rw [if_neg c17] at H
                    by_cases c18 : (σ 92 v2.toNatClampNeg) = 8
                    · rw [if_pos c18] at H
                      rw [zs_table (x := (σ 92 v2.toNatClampNeg)) (off := 387) (t := 534) zd_187_147 (by rw [c18]; decide) rfl]
                      rw [zs_iload (ls := [some (.ref 82), some (.int v1), some (.int v2), some (.int v3), some (.int s0), o5]) zd_187_534 rfl]
                      by_cases c40 : ¬ s0 = 0
                      · rw [if_pos c40] at H
                        rw [zp_if_ne_t (x := s0) (t := 545) zd_187_536 rfl c40]
                        rw [zs_aload_n (ls := [some (.ref 82), some (.int v1), some (.int v2), some (.int v3), some (.int s0), o5]) zd_187_545 rfl]
                        rw [zs_iload_n (ls := [some (.ref 82), some (.int v1), some (.int v2), some (.int v3), some (.int s0), o5]) zd_187_546 rfl]
                        rw [zs_aload_n (ls := [some (.ref 82), some (.int v1), some (.int v2), some (.int v3), some (.int s0), o5]) zd_187_547 rfl]
                        rw [zs_getR (n := 119) (K := zx_pk (zK L) 119) (ρ := zR) (c := 12) (k := 27) (q := 82) (p := 92) zd_187_548 rfl rfl rfl (by decide) rfl]
                        rw [zs_iload_n (ls := [some (.ref 82), some (.int v1), some (.int v2), some (.int v3), some (.int s0), o5]) zd_187_551 rfl]
                        by_cases c41 : 0 ≤ v2 ∧ v2 < 96
                        · rw [if_pos c41] at H
                          rw [zp_iaload (n := 119) (K := zx_pk (zK L) 119) (σ := σ) (q := 92) (m := 96) (i := v2) (k := v2.toNatClampNeg) (v := (σ 92 v2.toNatClampNeg)) zd_187_552 rfl (by decide) (zJ_in c41 rfl) rfl rfl]
                          rw [zs_bipush (z := 9) zd_187_553 (by decide)]
                          by_cases c42 : ¬ (σ 92 v2.toNatClampNeg) = 9
                          · rw [if_pos c42] at H
                            rw [zp_icmp_ne_t (x := (σ 92 v2.toNatClampNeg)) (y := 9) (t := 562) zd_187_555 rfl c42]
                            rw [zs_iconst (z := 0) zd_187_562 (by decide)]
                            exact zt_M_doStep_563  H
                          · rw [if_neg c42] at H
                            rw [zp_icmp_ne_f (x := (σ 92 v2.toNatClampNeg)) (y := 9) (t := 562) zd_187_555 rfl c42]
                            rw [zs_iconst (z := 1) zd_187_558 (by decide)]
                            rw [zs_goto (t := 563) zd_187_559 rfl]
                            exact zt_M_doStep_563  H
                        · rw [if_neg c41] at H
                          cases H
                      · rw [if_neg c40] at H
                        rw [zp_if_ne_f (x := s0) (t := 545) zd_187_536 rfl c40]
                        rw [zs_aload_n (ls := [some (.ref 82), some (.int v1), some (.int v2), some (.int v3), some (.int s0), o5]) zd_187_539 rfl]
                        rw [zs_iload_n (ls := [some (.ref 82), some (.int v1), some (.int v2), some (.int v3), some (.int s0), o5]) zd_187_540 rfl]
                        obtain ⟨r43, hr43, H⟩ := Option.bind_eq_some_iff.mp H
                        rw [zp_callVv (st := [.int v1, .ref 82]) (as := [.ref 82, .int v1]) (rest := []) (e := 1) zd_187_541 rfl (by decide +kernel) (by decide) rfl rfl (Nat.le_of_ble_eq_true rfl) (zx_rcb_ok rfl (show 82 < 119 by decide)) (Nat.le_of_ble_eq_true rfl) rfl (by decide) (zt_M_failing hr43)]
                        have H := Option.some.inj H
                        subst H
                        exact zs_return zd_187_544 (by decide +kernel)
                    · rw [if_neg c18] at H
                      by_cases c19 : (σ 92 v2.toNatClampNeg) = 9
                      · rw [if_pos c19] at H
                        rw [zs_table (x := (σ 92 v2.toNatClampNeg)) (off := 387) (t := 534) zd_187_147 (by rw [c19]; decide) rfl]
                        rw [zs_iload (ls := [some (.ref 82), some (.int v1), some (.int v2), some (.int v3), some (.int s0), o5]) zd_187_534 rfl]
                        by_cases c35 : ¬ s0 = 0
                        · rw [if_pos c35] at H
                          rw [zp_if_ne_t (x := s0) (t := 545) zd_187_536 rfl c35]
                          rw [zs_aload_n (ls := [some (.ref 82), some (.int v1), some (.int v2), some (.int v3), some (.int s0), o5]) zd_187_545 rfl]
                          rw [zs_iload_n (ls := [some (.ref 82), some (.int v1), some (.int v2), some (.int v3), some (.int s0), o5]) zd_187_546 rfl]
                          rw [zs_aload_n (ls := [some (.ref 82), some (.int v1), some (.int v2), some (.int v3), some (.int s0), o5]) zd_187_547 rfl]
                          rw [zs_getR (n := 119) (K := zx_pk (zK L) 119) (ρ := zR) (c := 12) (k := 27) (q := 82) (p := 92) zd_187_548 rfl rfl rfl (by decide) rfl]
                          rw [zs_iload_n (ls := [some (.ref 82), some (.int v1), some (.int v2), some (.int v3), some (.int s0), o5]) zd_187_551 rfl]
                          by_cases c36 : 0 ≤ v2 ∧ v2 < 96
                          · rw [if_pos c36] at H
                            rw [zp_iaload (n := 119) (K := zx_pk (zK L) 119) (σ := σ) (q := 92) (m := 96) (i := v2) (k := v2.toNatClampNeg) (v := (σ 92 v2.toNatClampNeg)) zd_187_552 rfl (by decide) (zJ_in c36 rfl) rfl rfl]
                            rw [zs_bipush (z := 9) zd_187_553 (by decide)]
                            by_cases c37 : ¬ (σ 92 v2.toNatClampNeg) = 9
                            · rw [if_pos c37] at H
                              rw [zp_icmp_ne_t (x := (σ 92 v2.toNatClampNeg)) (y := 9) (t := 562) zd_187_555 rfl c37]
                              rw [zs_iconst (z := 0) zd_187_562 (by decide)]
                              exact zt_M_doStep_563  H
                            · rw [if_neg c37] at H
                              rw [zp_icmp_ne_f (x := (σ 92 v2.toNatClampNeg)) (y := 9) (t := 562) zd_187_555 rfl c37]
                              rw [zs_iconst (z := 1) zd_187_558 (by decide)]
                              rw [zs_goto (t := 563) zd_187_559 rfl]
                              exact zt_M_doStep_563  H
                          · rw [if_neg c36] at H
                            cases H
                        · rw [if_neg c35] at H
                          rw [zp_if_ne_f (x := s0) (t := 545) zd_187_536 rfl c35]
                          rw [zs_aload_n (ls := [some (.ref 82), some (.int v1), some (.int v2), some (.int v3), some (.int s0), o5]) zd_187_539 rfl]
                          rw [zs_iload_n (ls := [some (.ref 82), some (.int v1), some (.int v2), some (.int v3), some (.int s0), o5]) zd_187_540 rfl]
                          obtain ⟨r39, hr39, H⟩ := Option.bind_eq_some_iff.mp H
                          rw [zp_callVv (st := [.int v1, .ref 82]) (as := [.ref 82, .int v1]) (rest := []) (e := 1) zd_187_541 rfl (by decide +kernel) (by decide) rfl rfl (Nat.le_of_ble_eq_true rfl) (zx_rcb_ok rfl (show 82 < 119 by decide)) (Nat.le_of_ble_eq_true rfl) rfl (by decide) (zt_M_failing hr39)]
                          have H := Option.some.inj H
                          subst H
                          exact zs_return zd_187_544 (by decide +kernel)
                      · rw [if_neg c19] at H
                        by_cases c20 : (σ 92 v2.toNatClampNeg) = 10
                        · rw [if_pos c20] at H
                          rw [zs_table (x := (σ 92 v2.toNatClampNeg)) (off := 422) (t := 569) zd_187_147 (by rw [c20]; decide) rfl]
                          rw [zs_aload_n (ls := [some (.ref 82), some (.int v1), some (.int v2), some (.int v3), some (.int s0), o5]) zd_187_569 rfl]
                          rw [zs_iload_n (ls := [some (.ref 82), some (.int v1), some (.int v2), some (.int v3), some (.int s0), o5]) zd_187_570 rfl]
                          obtain ⟨r31, hr31, H⟩ := Option.bind_eq_some_iff.mp H
                          rw [zp_callVi (x := r31) (st := [.int v3, .ref 82]) (as := [.ref 82, .int v3]) (rest := []) (e := 1) zd_187_571 rfl (by decide +kernel) (by decide) rfl rfl (Nat.le_of_ble_eq_true rfl) (zx_rcb_ok rfl (show 82 < 119 by decide)) (Nat.le_of_ble_eq_true rfl) rfl (by decide) (zt_M_stateOf hr31)]
                          by_cases c32 : r31 = 0
                          · rw [if_pos c32] at H
                            rw [zp_if_eq_t (x := r31) (t := 583) zd_187_574 rfl c32]
                            rw [zs_aload_n (ls := [some (.ref 82), some (.int v1), some (.int v2), some (.int v3), some (.int s0), o5]) zd_187_583 rfl]
                            rw [zs_iload_n (ls := [some (.ref 82), some (.int v1), some (.int v2), some (.int v3), some (.int s0), o5]) zd_187_584 rfl]
                            obtain ⟨r33, hr33, H⟩ := Option.bind_eq_some_iff.mp H
                            rw [zp_callVv (st := [.int v3, .ref 82]) (as := [.ref 82, .int v3]) (rest := []) (e := 2) zd_187_585 rfl (by decide +kernel) (by decide) rfl rfl (Nat.le_of_ble_eq_true rfl) (zx_rcb_ok rfl (show 82 < 119 by decide)) (Nat.le_of_ble_eq_true rfl) rfl (by decide) (zt_M_begin hr33)]
                            rw [zs_goto (t := 618) zd_187_588 rfl]
                            exact zt_M_doStep_618  H
                          · rw [if_neg c32] at H
                            rw [zp_if_eq_f (x := r31) (t := 583) zd_187_574 rfl c32]
                            rw [zs_aload_n (ls := [some (.ref 82), some (.int v1), some (.int v2), some (.int v3), some (.int s0), o5]) zd_187_577 rfl]
                            rw [zs_iload_n (ls := [some (.ref 82), some (.int v1), some (.int v2), some (.int v3), some (.int s0), o5]) zd_187_578 rfl]
                            obtain ⟨r34, hr34, H⟩ := Option.bind_eq_some_iff.mp H
                            rw [zp_callVv (st := [.int v1, .ref 82]) (as := [.ref 82, .int v1]) (rest := []) (e := 1) zd_187_579 rfl (by decide +kernel) (by decide) rfl rfl (Nat.le_of_ble_eq_true rfl) (zx_rcb_ok rfl (show 82 < 119 by decide)) (Nat.le_of_ble_eq_true rfl) rfl (by decide) (zt_M_failing hr34)]
                            have H := Option.some.inj H
                            subst H
                            exact zs_return zd_187_582 (by decide +kernel)
                        · rw [if_neg c20] at H
                          by_cases c21 : (σ 92 v2.toNatClampNeg) = 11
                          · rw [if_pos c21] at H
                            rw [zs_table (x := (σ 92 v2.toNatClampNeg)) (off := 471) (t := 618) zd_187_147 (by rw [c21]; decide) rfl]
                            exact zt_M_doStep_618  H
                          · rw [if_neg c21] at H
                            by_cases c22 : (σ 92 v2.toNatClampNeg) = 12
                            · rw [if_pos c22] at H
                              rw [zs_table (x := (σ 92 v2.toNatClampNeg)) (off := 444) (t := 591) zd_187_147 (by rw [c22]; decide) rfl]
                              rw [zs_aload_n (ls := [some (.ref 82), some (.int v1), some (.int v2), some (.int v3), some (.int s0), o5]) zd_187_591 rfl]
                              rw [zs_iload_n (ls := [some (.ref 82), some (.int v1), some (.int v2), some (.int v3), some (.int s0), o5]) zd_187_592 rfl]
                              rw [zs_iload_n (ls := [some (.ref 82), some (.int v1), some (.int v2), some (.int v3), some (.int s0), o5]) zd_187_593 rfl]
                              obtain ⟨r28, hr28, H⟩ := Option.bind_eq_some_iff.mp H
                              rw [zp_callVi (x := r28) (st := [.int v2, .int v1, .ref 82]) (as := [.ref 82, .int v1, .int v2]) (rest := []) (e := 2) zd_187_594 rfl (by decide +kernel) (by decide) rfl rfl (Nat.le_of_ble_eq_true rfl) (zx_rcb_ok rfl (show 82 < 119 by decide)) (Nat.le_of_ble_eq_true rfl) rfl (by decide) (zt_M_isSo hr28)]
                              by_cases c29 : ¬ r28 = 0
                              · rw [if_pos c29] at H
                                rw [zp_if_ne_t (x := r28) (t := 618) zd_187_597 rfl c29]
                                exact zt_M_doStep_618  H
                              · rw [if_neg c29] at H
                                rw [zp_if_ne_f (x := r28) (t := 618) zd_187_597 rfl c29]
                                rw [zs_aload_n (ls := [some (.ref 82), some (.int v1), some (.int v2), some (.int v3), some (.int s0), o5]) zd_187_600 rfl]
                                rw [zs_iload_n (ls := [some (.ref 82), some (.int v1), some (.int v2), some (.int v3), some (.int s0), o5]) zd_187_601 rfl]
                                obtain ⟨r30, hr30, H⟩ := Option.bind_eq_some_iff.mp H
                                rw [zp_callVv (st := [.int v1, .ref 82]) (as := [.ref 82, .int v1]) (rest := []) (e := 1) zd_187_602 rfl (by decide +kernel) (by decide) rfl rfl (Nat.le_of_ble_eq_true rfl) (zx_rcb_ok rfl (show 82 < 119 by decide)) (Nat.le_of_ble_eq_true rfl) rfl (by decide) (zt_M_failing hr30)]
                                have H := Option.some.inj H
                                subst H
                                exact zs_return zd_187_605 (by decide +kernel)
                            · rw [if_neg c22] at H
                              by_cases c23 : (σ 92 v2.toNatClampNeg) = 13
                              · rw [if_pos c23] at H
                                rw [zs_table (x := (σ 92 v2.toNatClampNeg)) (off := 459) (t := 606) zd_187_147 (by rw [c23]; decide) rfl]
                                rw [zs_aload_n (ls := [some (.ref 82), some (.int v1), some (.int v2), some (.int v3), some (.int s0), o5]) zd_187_606 rfl]
                                rw [zs_iload_n (ls := [some (.ref 82), some (.int v1), some (.int v2), some (.int v3), some (.int s0), o5]) zd_187_607 rfl]
                                rw [zs_aload_n (ls := [some (.ref 82), some (.int v1), some (.int v2), some (.int v3), some (.int s0), o5]) zd_187_608 rfl]
                                rw [zs_getR (n := 119) (K := zx_pk (zK L) 119) (ρ := zR) (c := 12) (k := 24) (q := 82) (p := 90) zd_187_609 rfl rfl rfl (by decide) rfl]
                                rw [zs_iload_n (ls := [some (.ref 82), some (.int v1), some (.int v2), some (.int v3), some (.int s0), o5]) zd_187_612 rfl]
                                by_cases c26 : 0 ≤ v1 ∧ v1 < 4
                                · rw [if_pos c26] at H
                                  rw [zp_iaload (n := 119) (K := zx_pk (zK L) 119) (σ := σ) (q := 90) (m := 4) (i := v1) (k := v1.toNatClampNeg) (v := (σ 90 v1.toNatClampNeg)) zd_187_613 rfl (by decide) (zJ_in c26 rfl) rfl rfl]
                                  obtain ⟨r27, hr27, H⟩ := Option.bind_eq_some_iff.mp H
                                  rw [zp_callVv (st := [.int (σ 90 v1.toNatClampNeg), .int v1, .ref 82]) (as := [.ref 82, .int v1, .int (σ 90 v1.toNatClampNeg)]) (rest := []) (e := 1) zd_187_614 rfl (by decide +kernel) (by decide) rfl rfl (Nat.le_of_ble_eq_true rfl) (zx_rcb_ok rfl (show 82 < 119 by decide)) (Nat.le_of_ble_eq_true rfl) rfl (by decide) (zt_M_goTo hr27)]
                                  have H := Option.some.inj H
                                  subst H
                                  exact zs_return zd_187_617 (by decide +kernel)
                                · rw [if_neg c26] at H
                                  cases H
                              · rw [if_neg c23] at H
                                rw [zs_table (x := (σ 92 v2.toNatClampNeg)) (off := 471) (t := 618) zd_187_147 (if_pos (by have e : ∀ z : Int32, ¬ (σ 92 v2.toNatClampNeg) = z → ¬ ((σ 92 v2.toNatClampNeg) : Int32).toInt = z.toInt := fun z h q => h (Int32.toInt_inj.mp q); have q0 := e 0 c10; have q1 := e 1 c11; have q2 := e 2 c12; have q3 := e 3 c13; have q4 := e 4 c14; have q5 := e 5 c15; have q6 := e 6 c16; have q7 := e 7 c17; have q8 := e 8 c18; have q9 := e 9 c19; have q10 := e 10 c20; have q11 := e 11 c21; have q12 := e 12 c22; have q13 := e 13 c23; simp only [show (0 : Int32).toInt = 0 from rfl, show (1 : Int32).toInt = 1 from rfl, show (10 : Int32).toInt = 10 from rfl, show (11 : Int32).toInt = 11 from rfl, show (12 : Int32).toInt = 12 from rfl, show (13 : Int32).toInt = 13 from rfl, show (2 : Int32).toInt = 2 from rfl, show (3 : Int32).toInt = 3 from rfl, show (4 : Int32).toInt = 4 from rfl, show (5 : Int32).toInt = 5 from rfl, show (6 : Int32).toInt = 6 from rfl, show (7 : Int32).toInt = 7 from rfl, show (8 : Int32).toInt = 8 from rfl, show (9 : Int32).toInt = 9 from rfl] at q0 q1 q2 q3 q4 q5 q6 q7 q8 q9 q10 q11 q12 q13; omega)) rfl]
                                exact zt_M_doStep_618  H
  · rw [if_neg c9] at H
    cases H
set_option maxRecDepth 20000 in
theorem zt_M_doStep_138 {a b L N : Nat} {σ : zS} {τ : zT} {v1 : Int32} {v2 : Int32} {v3 : Int32} {o4 : Option Value} {o5 : Option Value} {r : zS} (H : zb_M_doStep_138 N σ v1 v2 v3 = some r) : zx_go 3 187 138 [some (.ref 82), some (.int v1), some (.int v2), some (.int v3), o4, o5] [] ((119, a, b), zx_pk (zK L) 119, σ, τ, zR) = some (none, ((119, a, b), zx_pk (zK L) 119, r, τ, zR)) := by
  unfold zb_M_doStep_138 at H
  rw [zs_iconst (z := 0) zd_187_138 (by decide)]
  exact zt_M_doStep_139  H
set_option maxRecDepth 20000 in
theorem zt_M_doStep {a b L N : Nat} {σ : zS} {τ : zT} {x1 : Int32} {r : zS} (H : zf_M_doStep N σ x1 = some r) : zx_go 3 187 0 [some (.ref 82), some (.int x1), none, none, none, none] [] ((119, a, b), zx_pk (zK L) 119, σ, τ, zR) = some (none, ((119, a, b), zx_pk (zK L) 119, r, τ, zR)) := by
  unfold zf_M_doStep at H
  rw [zs_bipush (z := 24) zd_187_0 (by decide)]
  rw [zs_iload_n (ls := [some (.ref 82), some (.int x1), none, none, none, none]) zd_187_2 rfl]
  rw [zp_imul (x := 24) (y := x1) (z := (24 * x1)) zd_187_3 rfl]
  rw [zs_aload_n (ls := [some (.ref 82), some (.int x1), none, none, none, none]) zd_187_4 rfl]
  rw [zs_getR (n := 119) (K := zx_pk (zK L) 119) (ρ := zR) (c := 12) (k := 47) (q := 82) (p := 107) zd_187_5 rfl rfl rfl (by decide) rfl]
  rw [zs_aload_n (ls := [some (.ref 82), some (.int x1), none, none, none, none]) zd_187_8 rfl]
  rw [zs_iload_n (ls := [some (.ref 82), some (.int x1), none, none, none, none]) zd_187_9 rfl]
  obtain ⟨r1, hr1, H⟩ := Option.bind_eq_some_iff.mp H
  rw [zp_callVi (x := r1) (st := [.int x1, .ref 82, .ref 107, .int (24 * x1)]) (as := [.ref 82, .int x1]) (rest := [.ref 107, .int (24 * x1)]) (e := 0) zd_187_10 rfl (by decide +kernel) (by decide) rfl rfl (Nat.le_of_ble_eq_true rfl) (zx_rcb_ok rfl (show 82 < 119 by decide)) (Nat.le_of_ble_eq_true rfl) rfl (by decide) (zt_M_at hr1)]
  by_cases c2 : 0 ≤ r1 ∧ r1 < 40
  · rw [if_pos c2] at H
    rw [zp_iaload (n := 119) (K := zx_pk (zK L) 119) (σ := σ) (q := 107) (m := 40) (i := r1) (k := r1.toNatClampNeg) (v := (σ 107 r1.toNatClampNeg)) zd_187_13 rfl (by decide) (zJ_in c2 rfl) rfl rfl]
    rw [zp_iadd (x := (24 * x1)) (y := (σ 107 r1.toNatClampNeg)) (z := ((24 * x1) + (σ 107 r1.toNatClampNeg))) zd_187_14 rfl]
    rw [zs_istore_n (x := ((24 * x1) + (σ 107 r1.toNatClampNeg))) (ls' := [some (.ref 82), some (.int x1), some (.int ((24 * x1) + (σ 107 r1.toNatClampNeg))), none, none, none]) zd_187_15 (Nat.le_of_ble_eq_true rfl) rfl]
    rw [zs_aload_n (ls := [some (.ref 82), some (.int x1), some (.int ((24 * x1) + (σ 107 r1.toNatClampNeg))), none, none, none]) zd_187_16 rfl]
    rw [zs_getR (n := 119) (K := zx_pk (zK L) 119) (ρ := zR) (c := 12) (k := 28) (q := 82) (p := 93) zd_187_17 rfl rfl rfl (by decide) rfl]
    rw [zs_iload_n (ls := [some (.ref 82), some (.int x1), some (.int ((24 * x1) + (σ 107 r1.toNatClampNeg))), none, none, none]) zd_187_20 rfl]
    by_cases c3 : 0 ≤ ((24 * x1) + (σ 107 r1.toNatClampNeg)) ∧ ((24 * x1) + (σ 107 r1.toNatClampNeg)) < 96
    · rw [if_pos c3] at H
      rw [zp_iaload (n := 119) (K := zx_pk (zK L) 119) (σ := σ) (q := 93) (m := 96) (i := ((24 * x1) + (σ 107 r1.toNatClampNeg))) (k := ((24 * x1) + (σ 107 r1.toNatClampNeg)).toNatClampNeg) (v := (σ 93 ((24 * x1) + (σ 107 r1.toNatClampNeg)).toNatClampNeg)) zd_187_21 rfl (by decide) (zJ_in c3 rfl) rfl rfl]
      rw [zs_istore_n (x := (σ 93 ((24 * x1) + (σ 107 r1.toNatClampNeg)).toNatClampNeg)) (ls' := [some (.ref 82), some (.int x1), some (.int ((24 * x1) + (σ 107 r1.toNatClampNeg))), some (.int (σ 93 ((24 * x1) + (σ 107 r1.toNatClampNeg)).toNatClampNeg)), none, none]) zd_187_22 (Nat.le_of_ble_eq_true rfl) rfl]
      rw [zs_aload_n (ls := [some (.ref 82), some (.int x1), some (.int ((24 * x1) + (σ 107 r1.toNatClampNeg))), some (.int (σ 93 ((24 * x1) + (σ 107 r1.toNatClampNeg)).toNatClampNeg)), none, none]) zd_187_23 rfl]
      rw [zs_iload_n (ls := [some (.ref 82), some (.int x1), some (.int ((24 * x1) + (σ 107 r1.toNatClampNeg))), some (.int (σ 93 ((24 * x1) + (σ 107 r1.toNatClampNeg)).toNatClampNeg)), none, none]) zd_187_24 rfl]
      obtain ⟨r4, hr4, H⟩ := Option.bind_eq_some_iff.mp H
      rw [zp_callVi (x := r4) (st := [.int x1, .ref 82]) (as := [.ref 82, .int x1]) (rest := []) (e := 1) zd_187_25 rfl (by decide +kernel) (by decide) rfl rfl (Nat.le_of_ble_eq_true rfl) (zx_rcb_ok rfl (show 82 < 119 by decide)) (Nat.le_of_ble_eq_true rfl) rfl (by decide) (zt_M_stateOf hr4)]
      rw [zs_iconst (z := 3) zd_187_28 (by decide)]
      by_cases c5 : ¬ r4 = 3
      · rw [if_pos c5] at H
        rw [zp_icmp_ne_t (x := r4) (y := 3) (t := 103) zd_187_29 rfl c5]
        rw [zs_aload_n (ls := [some (.ref 82), some (.int x1), some (.int ((24 * x1) + (σ 107 r1.toNatClampNeg))), some (.int (σ 93 ((24 * x1) + (σ 107 r1.toNatClampNeg)).toNatClampNeg)), none, none]) zd_187_103 rfl]
        rw [zs_getR (n := 119) (K := zx_pk (zK L) 119) (ρ := zR) (c := 12) (k := 27) (q := 82) (p := 92) zd_187_104 rfl rfl rfl (by decide) rfl]
        rw [zs_iload_n (ls := [some (.ref 82), some (.int x1), some (.int ((24 * x1) + (σ 107 r1.toNatClampNeg))), some (.int (σ 93 ((24 * x1) + (σ 107 r1.toNatClampNeg)).toNatClampNeg)), none, none]) zd_187_107 rfl]
        by_cases c6 : 0 ≤ ((24 * x1) + (σ 107 r1.toNatClampNeg)) ∧ ((24 * x1) + (σ 107 r1.toNatClampNeg)) < 96
        · rw [if_pos c6] at H
          rw [zp_iaload (n := 119) (K := zx_pk (zK L) 119) (σ := σ) (q := 92) (m := 96) (i := ((24 * x1) + (σ 107 r1.toNatClampNeg))) (k := ((24 * x1) + (σ 107 r1.toNatClampNeg)).toNatClampNeg) (v := (σ 92 ((24 * x1) + (σ 107 r1.toNatClampNeg)).toNatClampNeg)) zd_187_108 rfl (by decide) (zJ_in c6 rfl) rfl rfl]
          rw [zs_bipush (z := 7) zd_187_109 (by decide)]
          rw [zs_bipush (z := 9) zd_187_111 (by decide)]
          obtain ⟨r7, hr7, H⟩ := Option.bind_eq_some_iff.mp H
          rw [zp_callSi (x := r7) (st := [.int 9, .int 7, .int (σ 92 ((24 * x1) + (σ 107 r1.toNatClampNeg)).toNatClampNeg)]) (as := [.int (σ 92 ((24 * x1) + (σ 107 r1.toNatClampNeg)).toNatClampNeg), .int 7, .int 9]) (rest := []) (e := 0) zd_187_113 rfl (by decide +kernel) (by decide) rfl rfl (Nat.le_of_ble_eq_true rfl) rfl (Nat.le_of_ble_eq_true rfl) rfl (by decide) (zt_M_in hr7)]
          by_cases c8 : r7 = 0
          · rw [if_pos c8] at H
            rw [zp_if_eq_t (x := r7) (t := 138) zd_187_116 rfl c8]
            exact zt_M_doStep_138  H
          · rw [if_neg c8] at H
            rw [zp_if_eq_f (x := r7) (t := 138) zd_187_116 rfl c8]
            rw [zs_aload_n (ls := [some (.ref 82), some (.int x1), some (.int ((24 * x1) + (σ 107 r1.toNatClampNeg))), some (.int (σ 93 ((24 * x1) + (σ 107 r1.toNatClampNeg)).toNatClampNeg)), none, none]) zd_187_119 rfl]
            rw [zs_getR (n := 119) (K := zx_pk (zK L) 119) (ρ := zR) (c := 12) (k := 47) (q := 82) (p := 107) zd_187_120 rfl rfl rfl (by decide) rfl]
            rw [zs_bipush (z := 6) zd_187_123 (by decide)]
            rw [zs_iload_n (ls := [some (.ref 82), some (.int x1), some (.int ((24 * x1) + (σ 107 r1.toNatClampNeg))), some (.int (σ 93 ((24 * x1) + (σ 107 r1.toNatClampNeg)).toNatClampNeg)), none, none]) zd_187_125 rfl]
            rw [zp_iadd (x := 6) (y := (σ 93 ((24 * x1) + (σ 107 r1.toNatClampNeg)).toNatClampNeg)) (z := (6 + (σ 93 ((24 * x1) + (σ 107 r1.toNatClampNeg)).toNatClampNeg))) zd_187_126 rfl]
            by_cases c90 : 0 ≤ (6 + (σ 93 ((24 * x1) + (σ 107 r1.toNatClampNeg)).toNatClampNeg)) ∧ (6 + (σ 93 ((24 * x1) + (σ 107 r1.toNatClampNeg)).toNatClampNeg)) < 40
            · rw [if_pos c90] at H
              rw [zp_iaload (n := 119) (K := zx_pk (zK L) 119) (σ := σ) (q := 107) (m := 40) (i := (6 + (σ 93 ((24 * x1) + (σ 107 r1.toNatClampNeg)).toNatClampNeg))) (k := (6 + (σ 93 ((24 * x1) + (σ 107 r1.toNatClampNeg)).toNatClampNeg)).toNatClampNeg) (v := (σ 107 (6 + (σ 93 ((24 * x1) + (σ 107 r1.toNatClampNeg)).toNatClampNeg)).toNatClampNeg)) zd_187_127 rfl (by decide) (zJ_in c90 rfl) rfl rfl]
              rw [zs_iload_n (ls := [some (.ref 82), some (.int x1), some (.int ((24 * x1) + (σ 107 r1.toNatClampNeg))), some (.int (σ 93 ((24 * x1) + (σ 107 r1.toNatClampNeg)).toNatClampNeg)), none, none]) zd_187_128 rfl]
              rw [zs_iconst (z := 1) zd_187_129 (by decide)]
              rw [zp_iadd (x := x1) (y := 1) (z := (x1 + 1)) zd_187_130 rfl]
              by_cases c91 : ¬ (σ 107 (6 + (σ 93 ((24 * x1) + (σ 107 r1.toNatClampNeg)).toNatClampNeg)).toNatClampNeg) = (x1 + 1)
              · rw [if_pos c91] at H
                rw [zp_icmp_ne_t (x := (σ 107 (6 + (σ 93 ((24 * x1) + (σ 107 r1.toNatClampNeg)).toNatClampNeg)).toNatClampNeg)) (y := (x1 + 1)) (t := 138) zd_187_131 rfl c91]
                exact zt_M_doStep_138  H
              · rw [if_neg c91] at H
                rw [zp_icmp_ne_f (x := (σ 107 (6 + (σ 93 ((24 * x1) + (σ 107 r1.toNatClampNeg)).toNatClampNeg)).toNatClampNeg)) (y := (x1 + 1)) (t := 138) zd_187_131 rfl c91]
                rw [zs_iconst (z := 1) zd_187_134 (by decide)]
                rw [zs_goto (t := 139) zd_187_135 rfl]
                exact zt_M_doStep_139  H
            · rw [if_neg c90] at H
              cases H
        · rw [if_neg c6] at H
          cases H
      · rw [if_neg c5] at H
        rw [zp_icmp_ne_f (x := r4) (y := 3) (t := 103) zd_187_29 rfl c5]
        rw [zs_aload_n (ls := [some (.ref 82), some (.int x1), some (.int ((24 * x1) + (σ 107 r1.toNatClampNeg))), some (.int (σ 93 ((24 * x1) + (σ 107 r1.toNatClampNeg)).toNatClampNeg)), none, none]) zd_187_32 rfl]
        rw [zs_getR (n := 119) (K := zx_pk (zK L) 119) (ρ := zR) (c := 12) (k := 47) (q := 82) (p := 107) zd_187_33 rfl rfl rfl (by decide) rfl]
        rw [zs_bipush (z := 6) zd_187_36 (by decide)]
        rw [zs_iload_n (ls := [some (.ref 82), some (.int x1), some (.int ((24 * x1) + (σ 107 r1.toNatClampNeg))), some (.int (σ 93 ((24 * x1) + (σ 107 r1.toNatClampNeg)).toNatClampNeg)), none, none]) zd_187_38 rfl]
        rw [zp_iadd (x := 6) (y := (σ 93 ((24 * x1) + (σ 107 r1.toNatClampNeg)).toNatClampNeg)) (z := (6 + (σ 93 ((24 * x1) + (σ 107 r1.toNatClampNeg)).toNatClampNeg))) zd_187_39 rfl]
        rw [zs_iload_n (ls := [some (.ref 82), some (.int x1), some (.int ((24 * x1) + (σ 107 r1.toNatClampNeg))), some (.int (σ 93 ((24 * x1) + (σ 107 r1.toNatClampNeg)).toNatClampNeg)), none, none]) zd_187_40 rfl]
        rw [zs_iconst (z := 1) zd_187_41 (by decide)]
        rw [zp_iadd (x := x1) (y := 1) (z := (x1 + 1)) zd_187_42 rfl]
        by_cases c92 : 0 ≤ (6 + (σ 93 ((24 * x1) + (σ 107 r1.toNatClampNeg)).toNatClampNeg)) ∧ (6 + (σ 93 ((24 * x1) + (σ 107 r1.toNatClampNeg)).toNatClampNeg)) < 40
        · rw [if_pos c92] at H
          rw [zp_iastore (n := 119) (K := zx_pk (zK L) 119) (q := 107) (m := 40) (i := (6 + (σ 93 ((24 * x1) + (σ 107 r1.toNatClampNeg)).toNatClampNeg))) (k := (6 + (σ 93 ((24 * x1) + (σ 107 r1.toNatClampNeg)).toNatClampNeg)).toNatClampNeg) (x := (x1 + 1)) (z := (x1 + 1)) zd_187_43 rfl ⟨by decide, by decide⟩ (zJ_in c92 rfl) rfl rfl]
          rw [zs_aload_n (ls := [some (.ref 82), some (.int x1), some (.int ((24 * x1) + (σ 107 r1.toNatClampNeg))), some (.int (σ 93 ((24 * x1) + (σ 107 r1.toNatClampNeg)).toNatClampNeg)), none, none]) zd_187_44 rfl]
          rw [zs_getR (n := 119) (K := zx_pk (zK L) 119) (ρ := zR) (c := 12) (k := 47) (q := 82) (p := 107) zd_187_45 rfl rfl rfl (by decide) rfl]
          rw [zs_bipush (z := 10) zd_187_48 (by decide)]
          rw [zs_iload_n (ls := [some (.ref 82), some (.int x1), some (.int ((24 * x1) + (σ 107 r1.toNatClampNeg))), some (.int (σ 93 ((24 * x1) + (σ 107 r1.toNatClampNeg)).toNatClampNeg)), none, none]) zd_187_50 rfl]
          rw [zp_iadd (x := 10) (y := (σ 93 ((24 * x1) + (σ 107 r1.toNatClampNeg)).toNatClampNeg)) (z := (10 + (σ 93 ((24 * x1) + (σ 107 r1.toNatClampNeg)).toNatClampNeg))) zd_187_51 rfl]
          rw [zs_aload_n (ls := [some (.ref 82), some (.int x1), some (.int ((24 * x1) + (σ 107 r1.toNatClampNeg))), some (.int (σ 93 ((24 * x1) + (σ 107 r1.toNatClampNeg)).toNatClampNeg)), none, none]) zd_187_52 rfl]
          rw [zs_getR (n := 119) (K := zx_pk (zK L) 119) (ρ := zR) (c := 12) (k := 47) (q := 82) (p := 107) zd_187_53 rfl rfl rfl (by decide) rfl]
          rw [zs_aload_n (ls := [some (.ref 82), some (.int x1), some (.int ((24 * x1) + (σ 107 r1.toNatClampNeg))), some (.int (σ 93 ((24 * x1) + (σ 107 r1.toNatClampNeg)).toNatClampNeg)), none, none]) zd_187_56 rfl]
          rw [zs_iload_n (ls := [some (.ref 82), some (.int x1), some (.int ((24 * x1) + (σ 107 r1.toNatClampNeg))), some (.int (σ 93 ((24 * x1) + (σ 107 r1.toNatClampNeg)).toNatClampNeg)), none, none]) zd_187_57 rfl]
          obtain ⟨r93, hr93, H⟩ := Option.bind_eq_some_iff.mp H
          rw [zp_callVi (x := r93) (st := [.int x1, .ref 82, .ref 107, .int (10 + (σ 93 ((24 * x1) + (σ 107 r1.toNatClampNeg)).toNatClampNeg)), .ref 107]) (as := [.ref 82, .int x1]) (rest := [.ref 107, .int (10 + (σ 93 ((24 * x1) + (σ 107 r1.toNatClampNeg)).toNatClampNeg)), .ref 107]) (e := 0) zd_187_58 rfl (by decide +kernel) (by decide) rfl rfl (Nat.le_of_ble_eq_true rfl) (zx_rcb_ok rfl (show 82 < 119 by decide)) (Nat.le_of_ble_eq_true rfl) rfl (by decide) (zt_M_at hr93)]
          rw [zs_iconst (z := 5) zd_187_61 (by decide)]
          rw [zp_iadd (x := r93) (y := 5) (z := (r93 + 5)) zd_187_62 rfl]
          by_cases c94 : 0 ≤ (r93 + 5) ∧ (r93 + 5) < 40
          · rw [if_pos c94] at H
            rw [zp_iaload (n := 119) (K := zx_pk (zK L) 119) (σ := (zx_up σ 107 (6 + (σ 93 ((24 * x1) + (σ 107 r1.toNatClampNeg)).toNatClampNeg)).toNatClampNeg (x1 + 1))) (q := 107) (m := 40) (i := (r93 + 5)) (k := (r93 + 5).toNatClampNeg) (v := ((zx_up σ 107 (6 + (σ 93 ((24 * x1) + (σ 107 r1.toNatClampNeg)).toNatClampNeg)).toNatClampNeg (x1 + 1)) 107 (r93 + 5).toNatClampNeg)) zd_187_63 rfl (by decide) (zJ_in c94 rfl) rfl rfl]
            by_cases c95 : 0 ≤ (10 + (σ 93 ((24 * x1) + (σ 107 r1.toNatClampNeg)).toNatClampNeg)) ∧ (10 + (σ 93 ((24 * x1) + (σ 107 r1.toNatClampNeg)).toNatClampNeg)) < 40
            · rw [if_pos c95] at H
              rw [zp_iastore (n := 119) (K := zx_pk (zK L) 119) (q := 107) (m := 40) (i := (10 + (σ 93 ((24 * x1) + (σ 107 r1.toNatClampNeg)).toNatClampNeg))) (k := (10 + (σ 93 ((24 * x1) + (σ 107 r1.toNatClampNeg)).toNatClampNeg)).toNatClampNeg) (x := ((zx_up σ 107 (6 + (σ 93 ((24 * x1) + (σ 107 r1.toNatClampNeg)).toNatClampNeg)).toNatClampNeg (x1 + 1)) 107 (r93 + 5).toNatClampNeg)) (z := ((zx_up σ 107 (6 + (σ 93 ((24 * x1) + (σ 107 r1.toNatClampNeg)).toNatClampNeg)).toNatClampNeg (x1 + 1)) 107 (r93 + 5).toNatClampNeg)) zd_187_64 rfl ⟨by decide, by decide⟩ (zJ_in c95 rfl) rfl rfl]
              rw [zs_aload_n (ls := [some (.ref 82), some (.int x1), some (.int ((24 * x1) + (σ 107 r1.toNatClampNeg))), some (.int (σ 93 ((24 * x1) + (σ 107 r1.toNatClampNeg)).toNatClampNeg)), none, none]) zd_187_65 rfl]
              rw [zs_getR (n := 119) (K := zx_pk (zK L) 119) (ρ := zR) (c := 12) (k := 47) (q := 82) (p := 107) zd_187_66 rfl rfl rfl (by decide) rfl]
              rw [zs_aload_n (ls := [some (.ref 82), some (.int x1), some (.int ((24 * x1) + (σ 107 r1.toNatClampNeg))), some (.int (σ 93 ((24 * x1) + (σ 107 r1.toNatClampNeg)).toNatClampNeg)), none, none]) zd_187_69 rfl]
              rw [zs_iload_n (ls := [some (.ref 82), some (.int x1), some (.int ((24 * x1) + (σ 107 r1.toNatClampNeg))), some (.int (σ 93 ((24 * x1) + (σ 107 r1.toNatClampNeg)).toNatClampNeg)), none, none]) zd_187_70 rfl]
              obtain ⟨r96, hr96, H⟩ := Option.bind_eq_some_iff.mp H
              rw [zp_callVi (x := r96) (st := [.int x1, .ref 82, .ref 107]) (as := [.ref 82, .int x1]) (rest := [.ref 107]) (e := 0) zd_187_71 rfl (by decide +kernel) (by decide) rfl rfl (Nat.le_of_ble_eq_true rfl) (zx_rcb_ok rfl (show 82 < 119 by decide)) (Nat.le_of_ble_eq_true rfl) rfl (by decide) (zt_M_at hr96)]
              rw [zs_iconst (z := 5) zd_187_74 (by decide)]
              rw [zp_iadd (x := r96) (y := 5) (z := (r96 + 5)) zd_187_75 rfl]
              rw [zs_iconst (z := 0) zd_187_76 (by decide)]
              by_cases c97 : 0 ≤ (r96 + 5) ∧ (r96 + 5) < 40
              · rw [if_pos c97] at H
                rw [zp_iastore (n := 119) (K := zx_pk (zK L) 119) (q := 107) (m := 40) (i := (r96 + 5)) (k := (r96 + 5).toNatClampNeg) (x := 0) (z := 0) zd_187_77 rfl ⟨by decide, by decide⟩ (zJ_in c97 rfl) rfl rfl]
                rw [zs_aload_n (ls := [some (.ref 82), some (.int x1), some (.int ((24 * x1) + (σ 107 r1.toNatClampNeg))), some (.int (σ 93 ((24 * x1) + (σ 107 r1.toNatClampNeg)).toNatClampNeg)), none, none]) zd_187_78 rfl]
                rw [zs_getR (n := 119) (K := zx_pk (zK L) 119) (ρ := zR) (c := 12) (k := 47) (q := 82) (p := 107) zd_187_79 rfl rfl rfl (by decide) rfl]
                rw [zs_aload_n (ls := [some (.ref 82), some (.int x1), some (.int ((24 * x1) + (σ 107 r1.toNatClampNeg))), some (.int (σ 93 ((24 * x1) + (σ 107 r1.toNatClampNeg)).toNatClampNeg)), none, none]) zd_187_82 rfl]
                rw [zs_iload_n (ls := [some (.ref 82), some (.int x1), some (.int ((24 * x1) + (σ 107 r1.toNatClampNeg))), some (.int (σ 93 ((24 * x1) + (σ 107 r1.toNatClampNeg)).toNatClampNeg)), none, none]) zd_187_83 rfl]
                obtain ⟨r98, hr98, H⟩ := Option.bind_eq_some_iff.mp H
                rw [zp_callVi (x := r98) (st := [.int x1, .ref 82, .ref 107]) (as := [.ref 82, .int x1]) (rest := [.ref 107]) (e := 0) zd_187_84 rfl (by decide +kernel) (by decide) rfl rfl (Nat.le_of_ble_eq_true rfl) (zx_rcb_ok rfl (show 82 < 119 by decide)) (Nat.le_of_ble_eq_true rfl) rfl (by decide) (zt_M_at hr98)]
                rw [zs_iconst (z := 1) zd_187_87 (by decide)]
                rw [zp_iadd (x := r98) (y := 1) (z := (r98 + 1)) zd_187_88 rfl]
                rw [zs_iconst (z := 1) zd_187_89 (by decide)]
                by_cases c99 : 0 ≤ (r98 + 1) ∧ (r98 + 1) < 40
                · rw [if_pos c99] at H
                  rw [zp_iastore (n := 119) (K := zx_pk (zK L) 119) (q := 107) (m := 40) (i := (r98 + 1)) (k := (r98 + 1).toNatClampNeg) (x := 1) (z := 1) zd_187_90 rfl ⟨by decide, by decide⟩ (zJ_in c99 rfl) rfl rfl]
                  rw [zs_aload_n (ls := [some (.ref 82), some (.int x1), some (.int ((24 * x1) + (σ 107 r1.toNatClampNeg))), some (.int (σ 93 ((24 * x1) + (σ 107 r1.toNatClampNeg)).toNatClampNeg)), none, none]) zd_187_91 rfl]
                  rw [zs_iload_n (ls := [some (.ref 82), some (.int x1), some (.int ((24 * x1) + (σ 107 r1.toNatClampNeg))), some (.int (σ 93 ((24 * x1) + (σ 107 r1.toNatClampNeg)).toNatClampNeg)), none, none]) zd_187_92 rfl]
                  rw [zs_aload_n (ls := [some (.ref 82), some (.int x1), some (.int ((24 * x1) + (σ 107 r1.toNatClampNeg))), some (.int (σ 93 ((24 * x1) + (σ 107 r1.toNatClampNeg)).toNatClampNeg)), none, none]) zd_187_93 rfl]
                  rw [zs_getR (n := 119) (K := zx_pk (zK L) 119) (ρ := zR) (c := 12) (k := 29) (q := 82) (p := 94) zd_187_94 rfl rfl rfl (by decide) rfl]
                  rw [zs_iload_n (ls := [some (.ref 82), some (.int x1), some (.int ((24 * x1) + (σ 107 r1.toNatClampNeg))), some (.int (σ 93 ((24 * x1) + (σ 107 r1.toNatClampNeg)).toNatClampNeg)), none, none]) zd_187_97 rfl]
                  by_cases c100 : 0 ≤ ((24 * x1) + (σ 107 r1.toNatClampNeg)) ∧ ((24 * x1) + (σ 107 r1.toNatClampNeg)) < 96
                  · rw [if_pos c100] at H
                    rw [zp_iaload (n := 119) (K := zx_pk (zK L) 119) (σ := (zx_up (zx_up (zx_up (zx_up σ 107 (6 + (σ 93 ((24 * x1) + (σ 107 r1.toNatClampNeg)).toNatClampNeg)).toNatClampNeg (x1 + 1)) 107 (10 + (σ 93 ((24 * x1) + (σ 107 r1.toNatClampNeg)).toNatClampNeg)).toNatClampNeg ((zx_up σ 107 (6 + (σ 93 ((24 * x1) + (σ 107 r1.toNatClampNeg)).toNatClampNeg)).toNatClampNeg (x1 + 1)) 107 (r93 + 5).toNatClampNeg)) 107 (r96 + 5).toNatClampNeg 0) 107 (r98 + 1).toNatClampNeg 1)) (q := 94) (m := 96) (i := ((24 * x1) + (σ 107 r1.toNatClampNeg))) (k := ((24 * x1) + (σ 107 r1.toNatClampNeg)).toNatClampNeg) (v := (σ 94 ((24 * x1) + (σ 107 r1.toNatClampNeg)).toNatClampNeg)) zd_187_98 rfl (by decide) (zJ_in c100 rfl) rfl (show ((zx_up (zx_up (zx_up (zx_up σ 107 (6 + (σ 93 ((24 * x1) + (σ 107 r1.toNatClampNeg)).toNatClampNeg)).toNatClampNeg (x1 + 1)) 107 (10 + (σ 93 ((24 * x1) + (σ 107 r1.toNatClampNeg)).toNatClampNeg)).toNatClampNeg ((zx_up σ 107 (6 + (σ 93 ((24 * x1) + (σ 107 r1.toNatClampNeg)).toNatClampNeg)).toNatClampNeg (x1 + 1)) 107 (r93 + 5).toNatClampNeg)) 107 (r96 + 5).toNatClampNeg 0) 107 (r98 + 1).toNatClampNeg 1) : zS) 94 ((24 * x1) + (σ 107 r1.toNatClampNeg)).toNatClampNeg = (σ 94 ((24 * x1) + (σ 107 r1.toNatClampNeg)).toNatClampNeg) from ((zx_up_ne (by decide)).trans ((zx_up_ne (by decide)).trans ((zx_up_ne (by decide)).trans ((zx_up_ne (by decide)).trans rfl)))))]
                    obtain ⟨r101, hr101, H⟩ := Option.bind_eq_some_iff.mp H
                    rw [zp_callVv (st := [.int (σ 94 ((24 * x1) + (σ 107 r1.toNatClampNeg)).toNatClampNeg), .int x1, .ref 82]) (as := [.ref 82, .int x1, .int (σ 94 ((24 * x1) + (σ 107 r1.toNatClampNeg)).toNatClampNeg)]) (rest := []) (e := 1) zd_187_99 rfl (by decide +kernel) (by decide) rfl rfl (Nat.le_of_ble_eq_true rfl) (zx_rcb_ok rfl (show 82 < 119 by decide)) (Nat.le_of_ble_eq_true rfl) rfl (by decide) (zt_M_goTo hr101)]
                    have H := Option.some.inj H
                    subst H
                    exact zs_return zd_187_102 (by decide +kernel)
                  · rw [if_neg c100] at H
                    cases H
                · rw [if_neg c99] at H
                  cases H
              · rw [if_neg c97] at H
                cases H
            · rw [if_neg c95] at H
              cases H
          · rw [if_neg c94] at H
            cases H
        · rw [if_neg c92] at H
          cases H
    · rw [if_neg c3] at H
      cases H
  · rw [if_neg c2] at H
    cases H
set_option maxRecDepth 20000 in
theorem zt_M_run_275 {a b L N : Nat} {k68 : zS → Int32 → Option (Int32 × zS)} (hk68 : ∀ {σ : zS} {τ : zT} {v2 : Int32} {o1 : Option Value} {o3 : Option Value} {o4 : Option Value} {o5 : Option Value} {o6 : Option Value} {r : Int32 × zS}, k68 σ v2 = some r → zx_go 4 173 68 [some (.ref 82), o1, some (.int v2), o3, o4, o5, o6] [] ((119, a, b), zx_pk (zK L) 119, σ, τ, zR) = some (some (.int r.1), ((119, a, b), zx_pk (zK L) 119, r.2, τ, zR))) {σ : zS} {τ : zT} {v2 : Int32} {o1 : Option Value} {o3 : Option Value} {o4 : Option Value} {o5 : Option Value} {o6 : Option Value} {r : Int32 × zS} (H : zb_M_run_275 k68 N σ v2 = some r) : zx_go 4 173 275 [some (.ref 82), o1, some (.int v2), o3, o4, o5, o6] [] ((119, a, b), zx_pk (zK L) 119, σ, τ, zR) = some (some (.int r.1), ((119, a, b), zx_pk (zK L) 119, r.2, τ, zR)) := by
  unfold zb_M_run_275 at H
  rw [zs_iinc (ls := [some (.ref 82), o1, some (.int v2), o3, o4, o5, o6]) (x := v2) (z := (v2 + 1)) (ls' := [some (.ref 82), (zJ_cl o1), some (.int (v2 + 1)), o3, o4, o5, o6]) zd_173_275 rfl rfl (zJ_s1 (k := 1) (o := o1) rfl)]
  rw [zs_goto (t := 68) zd_173_278 rfl]
  exact hk68 H
set_option maxRecDepth 20000 in
theorem zt_M_run_250 {a b L N : Nat} {k68 : zS → Int32 → Option (Int32 × zS)} (hk68 : ∀ {σ : zS} {τ : zT} {v2 : Int32} {o1 : Option Value} {o3 : Option Value} {o4 : Option Value} {o5 : Option Value} {o6 : Option Value} {r : Int32 × zS}, k68 σ v2 = some r → zx_go 4 173 68 [some (.ref 82), o1, some (.int v2), o3, o4, o5, o6] [] ((119, a, b), zx_pk (zK L) 119, σ, τ, zR) = some (some (.int r.1), ((119, a, b), zx_pk (zK L) 119, r.2, τ, zR))) {σ : zS} {τ : zT} {v2 : Int32} {v4 : Int32} {o1 : Option Value} {o3 : Option Value} {o5 : Option Value} {o6 : Option Value} {r : Int32 × zS} (H : zb_M_run_250 k68 N σ v2 v4 = some r) : zx_go 4 173 250 [some (.ref 82), o1, some (.int v2), o3, some (.int v4), o5, o6] [] ((119, a, b), zx_pk (zK L) 119, σ, τ, zR) = some (some (.int r.1), ((119, a, b), zx_pk (zK L) 119, r.2, τ, zR)) := by
  unfold zb_M_run_250 at H
  rw [zs_iload (ls := [some (.ref 82), o1, some (.int v2), o3, some (.int v4), o5, o6]) zd_173_250 rfl]
  by_cases c15 : v4 = 0
  · rw [if_pos c15] at H
    rw [zp_if_eq_t (x := v4) (t := 275) zd_173_252 rfl c15]
    exact zt_M_run_275 (hk68 := hk68) H
  · rw [if_neg c15] at H
    rw [zp_if_eq_f (x := v4) (t := 275) zd_173_252 rfl c15]
    rw [zs_aload_n (ls := [some (.ref 82), o1, some (.int v2), o3, some (.int v4), o5, o6]) zd_173_255 rfl]
    rw [zs_getR (n := 119) (K := zx_pk (zK L) 119) (ρ := zR) (c := 12) (k := 59) (q := 82) (p := 115) zd_173_256 rfl rfl rfl (by decide) rfl]
    rw [zs_aload_n (ls := [some (.ref 82), o1, some (.int v2), o3, some (.int v4), o5, o6]) zd_173_259 rfl]
    rw [zp_getI (n := 119) (K := zx_pk (zK L) 119) (σ := σ) (c := 12) (k := 60) (q := 82) (v := (σ 82 60)) zd_173_260 rfl rfl rfl (by decide) rfl]
    rw [zs_iload_n (ls := [some (.ref 82), o1, some (.int v2), o3, some (.int v4), o5, o6]) zd_173_263 rfl]
    by_cases c16 : 0 ≤ (σ 82 60) ∧ (σ 82 60) < 4000
    · rw [if_pos c16] at H
      rw [zp_iastore (n := 119) (K := zx_pk (zK L) 119) (q := 115) (m := 4000) (i := (σ 82 60)) (k := (σ 82 60).toNatClampNeg) (x := v2) (z := v2) zd_173_264 rfl ⟨by decide, by decide⟩ (zJ_in c16 rfl) rfl rfl]
      rw [zs_aload_n (ls := [some (.ref 82), o1, some (.int v2), o3, some (.int v4), o5, o6]) zd_173_265 rfl]
      rw [zs_dup (a := .ref 82) zd_173_266 rfl]
      rw [zp_getI (n := 119) (K := zx_pk (zK L) 119) (σ := (zx_up σ 115 (σ 82 60).toNatClampNeg v2)) (c := 12) (k := 60) (q := 82) (v := (σ 82 60)) zd_173_267 rfl rfl rfl (by decide) (show ((zx_up σ 115 (σ 82 60).toNatClampNeg v2) : zS) 82 60 = (σ 82 60) from ((zx_up_ne (by decide)).trans rfl))]
      rw [zs_iconst (z := 1) zd_173_270 (by decide)]
      rw [zp_iadd (x := (σ 82 60)) (y := 1) (z := ((σ 82 60) + 1)) zd_173_271 rfl]
      rw [zs_putI (n := 119) (K := zx_pk (zK L) 119) (c := 12) (k := 60) (q := 82) (x := ((σ 82 60) + 1)) zd_173_272 rfl rfl (by decide +kernel) rfl (by decide)]
      exact zt_M_run_275 (hk68 := hk68) H
    · rw [if_neg c16] at H
      cases H
set_option maxRecDepth 20000 in
theorem zt_M_run_242 {a b L N : Nat} {k208 : zS → Int32 → Int32 → Int32 → Option (Int32 × zS)} (hk208 : ∀ {σ : zS} {τ : zT} {v2 : Int32} {v4 : Int32} {v5 : Int32} {o1 : Option Value} {o3 : Option Value} {o6 : Option Value} {r : Int32 × zS}, k208 σ v2 v4 v5 = some r → zx_go 4 173 208 [some (.ref 82), o1, some (.int v2), o3, some (.int v4), some (.int v5), o6] [] ((119, a, b), zx_pk (zK L) 119, σ, τ, zR) = some (some (.int r.1), ((119, a, b), zx_pk (zK L) 119, r.2, τ, zR))) {σ : zS} {τ : zT} {v2 : Int32} {v5 : Int32} {s0 : Int32} {o1 : Option Value} {o3 : Option Value} {o4 : Option Value} {o6 : Option Value} {r : Int32 × zS} (H : zb_M_run_242 k208 N σ v2 v5 s0 = some r) : zx_go 4 173 242 [some (.ref 82), o1, some (.int v2), o3, o4, some (.int v5), o6] [.int s0] ((119, a, b), zx_pk (zK L) 119, σ, τ, zR) = some (some (.int r.1), ((119, a, b), zx_pk (zK L) 119, r.2, τ, zR)) := by
  unfold zb_M_run_242 at H
  rw [zs_istore (x := s0) (ls' := [some (.ref 82), o1, some (.int v2), (zJ_cl o3), some (.int s0), some (.int v5), o6]) zd_173_242 (Nat.le_of_ble_eq_true rfl) (zJ_s1 (k := 3) (o := o3) rfl)]
  rw [zs_iinc (ls := [some (.ref 82), o1, some (.int v2), (zJ_cl o3), some (.int s0), some (.int v5), o6]) (x := v5) (z := (v5 + 1)) (ls' := [some (.ref 82), o1, some (.int v2), (zJ_cl o3), some (.int s0), some (.int (v5 + 1)), o6]) zd_173_244 rfl rfl rfl]
  rw [zs_goto (t := 208) zd_173_247 rfl]
  exact hk208 H
set_option maxRecDepth 20000 in
theorem zt_M_run_208 {a b L N : Nat} {k68 : zS → Int32 → Option (Int32 × zS)} (hk68 : ∀ {σ : zS} {τ : zT} {v2 : Int32} {o1 : Option Value} {o3 : Option Value} {o4 : Option Value} {o5 : Option Value} {o6 : Option Value} {r : Int32 × zS}, k68 σ v2 = some r → zx_go 4 173 68 [some (.ref 82), o1, some (.int v2), o3, o4, o5, o6] [] ((119, a, b), zx_pk (zK L) 119, σ, τ, zR) = some (some (.int r.1), ((119, a, b), zx_pk (zK L) 119, r.2, τ, zR))) : ∀ {n : Nat} {σ : zS} {τ : zT} {v2 : Int32} {v4 : Int32} {v5 : Int32} {o1 : Option Value} {o3 : Option Value} {o6 : Option Value} {r : Int32 × zS}, zb_M_run_208 k68 N n σ v2 v4 v5 = some r → zx_go 4 173 208 [some (.ref 82), o1, some (.int v2), o3, some (.int v4), some (.int v5), o6] [] ((119, a, b), zx_pk (zK L) 119, σ, τ, zR) = some (some (.int r.1), ((119, a, b), zx_pk (zK L) 119, r.2, τ, zR)) := by
  intro n
  induction n with
  | zero =>
    intro _ _ _ _ _ _ _ _ _ H
    cases H
  | succ n ih =>
    intro σ τ v2 v4 v5 o1 o3 o6 r H
    rw [zb_M_run_208] at H
    rw [zs_iload (ls := [some (.ref 82), o1, some (.int v2), o3, some (.int v4), some (.int v5), o6]) zd_173_208 rfl]
    rw [zs_aload_n (ls := [some (.ref 82), o1, some (.int v2), o3, some (.int v4), some (.int v5), o6]) zd_173_210 rfl]
    rw [zp_getI (n := 119) (K := zx_pk (zK L) 119) (σ := σ) (c := 12) (k := 60) (q := 82) (v := (σ 82 60)) zd_173_211 rfl rfl rfl (by decide) rfl]
    by_cases c14 : (σ 82 60) ≤ v5
    · rw [if_pos c14] at H
      rw [zp_icmp_ge_t (x := v5) (y := (σ 82 60)) (t := 250) zd_173_214 rfl c14]
      exact zt_M_run_250 (hk68 := hk68) H
    · rw [if_neg c14] at H
      rw [zp_icmp_ge_f (x := v5) (y := (σ 82 60)) (t := 250) zd_173_214 rfl c14]
      rw [zs_iload (ls := [some (.ref 82), o1, some (.int v2), o3, some (.int v4), some (.int v5), o6]) zd_173_217 rfl]
      by_cases c17 : v4 = 0
      · rw [if_pos c17] at H
        rw [zp_if_eq_t (x := v4) (t := 250) zd_173_219 rfl c17]
        exact zt_M_run_250 (hk68 := hk68) H
      · rw [if_neg c17] at H
        rw [zp_if_eq_f (x := v4) (t := 250) zd_173_219 rfl c17]
        rw [zs_aload_n (ls := [some (.ref 82), o1, some (.int v2), o3, some (.int v4), some (.int v5), o6]) zd_173_222 rfl]
        rw [zs_aload_n (ls := [some (.ref 82), o1, some (.int v2), o3, some (.int v4), some (.int v5), o6]) zd_173_223 rfl]
        rw [zs_getR (n := 119) (K := zx_pk (zK L) 119) (ρ := zR) (c := 12) (k := 59) (q := 82) (p := 115) zd_173_224 rfl rfl rfl (by decide) rfl]
        rw [zs_iload (ls := [some (.ref 82), o1, some (.int v2), o3, some (.int v4), some (.int v5), o6]) zd_173_227 rfl]
        by_cases c18 : 0 ≤ v5 ∧ v5 < 4000
        · rw [if_pos c18] at H
          rw [zp_iaload (n := 119) (K := zx_pk (zK L) 119) (σ := σ) (q := 115) (m := 4000) (i := v5) (k := v5.toNatClampNeg) (v := (σ 115 v5.toNatClampNeg)) zd_173_229 rfl (by decide) (zJ_in c18 rfl) rfl rfl]
          rw [zs_iload_n (ls := [some (.ref 82), o1, some (.int v2), o3, some (.int v4), some (.int v5), o6]) zd_173_230 rfl]
          obtain ⟨r19, hr19, H⟩ := Option.bind_eq_some_iff.mp H
          rw [zp_callVi (x := r19) (st := [.int v2, .int (σ 115 v5.toNatClampNeg), .ref 82]) (as := [.ref 82, .int (σ 115 v5.toNatClampNeg), .int v2]) (rest := []) (e := 1) zd_173_231 rfl (by decide +kernel) (by decide) rfl rfl (Nat.le_of_ble_eq_true rfl) (zx_rcb_ok rfl (show 82 < 119 by decide)) (Nat.le_of_ble_eq_true rfl) rfl (by decide) (zt_M_isOutcome hr19)]
          by_cases c20 : ¬ r19 = 0
          · rw [if_pos c20] at H
            rw [zp_if_ne_t (x := r19) (t := 241) zd_173_234 rfl c20]
            rw [zs_iconst (z := 0) zd_173_241 (by decide)]
            exact zt_M_run_242 (hk208 := ih) H
          · rw [if_neg c20] at H
            rw [zp_if_ne_f (x := r19) (t := 241) zd_173_234 rfl c20]
            rw [zs_iconst (z := 1) zd_173_237 (by decide)]
            rw [zs_goto (t := 242) zd_173_238 rfl]
            exact zt_M_run_242 (hk208 := ih) H
        · rw [if_neg c18] at H
          cases H
set_option maxRecDepth 20000 in
theorem zt_M_run_197 {a b L N : Nat} {k68 : zS → Int32 → Option (Int32 × zS)} (hk68 : ∀ {σ : zS} {τ : zT} {v2 : Int32} {o1 : Option Value} {o3 : Option Value} {o4 : Option Value} {o5 : Option Value} {o6 : Option Value} {r : Int32 × zS}, k68 σ v2 = some r → zx_go 4 173 68 [some (.ref 82), o1, some (.int v2), o3, o4, o5, o6] [] ((119, a, b), zx_pk (zK L) 119, σ, τ, zR) = some (some (.int r.1), ((119, a, b), zx_pk (zK L) 119, r.2, τ, zR))) {σ : zS} {τ : zT} {v2 : Int32} {v3 : Int32} {s0 : Int32} {s1 : Int32} {o1 : Option Value} {o4 : Option Value} {o5 : Option Value} {o6 : Option Value} {r : Int32 × zS} (H : zb_M_run_197 k68 N σ v2 v3 s0 s1 = some r) : zx_go 4 173 197 [some (.ref 82), o1, some (.int v2), some (.int v3), o4, o5, o6] [.int s0, .int s1, .ref 113] ((119, a, b), zx_pk (zK L) 119, σ, τ, zR) = some (some (.int r.1), ((119, a, b), zx_pk (zK L) 119, r.2, τ, zR)) := by
  unfold zb_M_run_197 at H
  by_cases c12 : 0 ≤ s1 ∧ s1 < 4000
  · rw [if_pos c12] at H
    rw [zp_iastore (n := 119) (K := zx_pk (zK L) 119) (q := 113) (m := 4000) (i := s1) (k := s1.toNatClampNeg) (x := s0) (z := s0) zd_173_197 rfl ⟨by decide, by decide⟩ (zJ_in c12 rfl) rfl rfl]
    rw [zs_iload_n (ls := [some (.ref 82), o1, some (.int v2), some (.int v3), o4, o5, o6]) zd_173_198 rfl]
    by_cases c13 : v3 = 0
    · rw [if_pos c13] at H
      rw [zp_if_eq_t (x := v3) (t := 275) zd_173_199 rfl c13]
      exact zt_M_run_275 (hk68 := hk68) H
    · rw [if_neg c13] at H
      rw [zp_if_eq_f (x := v3) (t := 275) zd_173_199 rfl c13]
      rw [zs_iconst (z := 1) zd_173_202 (by decide)]
      rw [zs_istore (x := 1) (ls' := [some (.ref 82), o1, some (.int v2), some (.int v3), some (.int 1), o5, o6]) zd_173_203 (Nat.le_of_ble_eq_true rfl) rfl]
      rw [zs_iconst (z := 0) zd_173_205 (by decide)]
      rw [zs_istore (x := 0) (ls' := [some (.ref 82), o1, some (.int v2), some (.int v3), some (.int 1), some (.int 0), o6]) zd_173_206 (Nat.le_of_ble_eq_true rfl) rfl]
      exact zt_M_run_208 (hk68 := hk68) H
  · rw [if_neg c12] at H
    cases H
set_option maxRecDepth 20000 in
theorem zt_M_run_169 {a b L N : Nat} {k91 : zS → Int32 → Int32 → Int32 → Option (Int32 × zS)} (hk91 : ∀ {σ : zS} {τ : zT} {v2 : Int32} {v3 : Int32} {v4 : Int32} {o1 : Option Value} {o5 : Option Value} {o6 : Option Value} {r : Int32 × zS}, k91 σ v2 v3 v4 = some r → zx_go 4 173 91 [some (.ref 82), o1, some (.int v2), some (.int v3), some (.int v4), o5, o6] [] ((119, a, b), zx_pk (zK L) 119, σ, τ, zR) = some (some (.int r.1), ((119, a, b), zx_pk (zK L) 119, r.2, τ, zR))) {σ : zS} {τ : zT} {v2 : Int32} {v3 : Int32} {v4 : Int32} {o1 : Option Value} {o5 : Option Value} {o6 : Option Value} {r : Int32 × zS} (H : zb_M_run_169 k91 N σ v2 v3 v4 = some r) : zx_go 4 173 169 [some (.ref 82), o1, some (.int v2), some (.int v3), some (.int v4), o5, o6] [] ((119, a, b), zx_pk (zK L) 119, σ, τ, zR) = some (some (.int r.1), ((119, a, b), zx_pk (zK L) 119, r.2, τ, zR)) := by
  unfold zb_M_run_169 at H
  rw [zs_iinc (ls := [some (.ref 82), o1, some (.int v2), some (.int v3), some (.int v4), o5, o6]) (x := v4) (z := (v4 + 1)) (ls' := [some (.ref 82), o1, some (.int v2), some (.int v3), some (.int (v4 + 1)), o5, o6]) zd_173_169 rfl rfl rfl]
  rw [zs_goto (t := 91) zd_173_172 rfl]
  exact hk91 H
set_option maxRecDepth 20000 in
theorem zt_M_run_91 {a b L N : Nat} {k68 : zS → Int32 → Option (Int32 × zS)} (hk68 : ∀ {σ : zS} {τ : zT} {v2 : Int32} {o1 : Option Value} {o3 : Option Value} {o4 : Option Value} {o5 : Option Value} {o6 : Option Value} {r : Int32 × zS}, k68 σ v2 = some r → zx_go 4 173 68 [some (.ref 82), o1, some (.int v2), o3, o4, o5, o6] [] ((119, a, b), zx_pk (zK L) 119, σ, τ, zR) = some (some (.int r.1), ((119, a, b), zx_pk (zK L) 119, r.2, τ, zR))) : ∀ {n : Nat} {σ : zS} {τ : zT} {v2 : Int32} {v3 : Int32} {v4 : Int32} {o1 : Option Value} {o5 : Option Value} {o6 : Option Value} {r : Int32 × zS}, zb_M_run_91 k68 N n σ v2 v3 v4 = some r → zx_go 4 173 91 [some (.ref 82), o1, some (.int v2), some (.int v3), some (.int v4), o5, o6] [] ((119, a, b), zx_pk (zK L) 119, σ, τ, zR) = some (some (.int r.1), ((119, a, b), zx_pk (zK L) 119, r.2, τ, zR)) := by
  intro n
  induction n with
  | zero =>
    intro _ _ _ _ _ _ _ _ _ H
    cases H
  | succ n ih =>
    intro σ τ v2 v3 v4 o1 o5 o6 r H
    rw [zb_M_run_91] at H
    rw [zs_iload (ls := [some (.ref 82), o1, some (.int v2), some (.int v3), some (.int v4), o5, o6]) zd_173_91 rfl]
    rw [zs_aload_n (ls := [some (.ref 82), o1, some (.int v2), some (.int v3), some (.int v4), o5, o6]) zd_173_93 rfl]
    rw [zp_getI (n := 119) (K := zx_pk (zK L) 119) (σ := σ) (c := 12) (k := 17) (q := 82) (v := (σ 82 17)) zd_173_94 rfl rfl rfl (by decide) rfl]
    by_cases c9 : (σ 82 17) ≤ v4
    · rw [if_pos c9] at H
      rw [zp_icmp_ge_t (x := v4) (y := (σ 82 17)) (t := 175) zd_173_97 rfl c9]
      rw [zs_aload_n (ls := [some (.ref 82), o1, some (.int v2), some (.int v3), some (.int v4), o5, o6]) zd_173_175 rfl]
      rw [zs_iload_n (ls := [some (.ref 82), o1, some (.int v2), some (.int v3), some (.int v4), o5, o6]) zd_173_176 rfl]
      obtain ⟨r10, hr10, H⟩ := Option.bind_eq_some_iff.mp H
      rw [zp_callVv (st := [.int v2, .ref 82]) (as := [.ref 82, .int v2]) (rest := []) (e := 0) zd_173_177 rfl (by decide +kernel) (by decide) rfl rfl (Nat.le_of_ble_eq_true rfl) (zx_rcb_ok rfl (show 82 < 119 by decide)) (Nat.le_of_ble_eq_true rfl) rfl (by decide) (zt_M_load hr10)]
      rw [zs_aload_n (ls := [some (.ref 82), o1, some (.int v2), some (.int v3), some (.int v4), o5, o6]) zd_173_180 rfl]
      rw [zs_getR (n := 119) (K := zx_pk (zK L) 119) (ρ := zR) (c := 12) (k := 57) (q := 82) (p := 113) zd_173_181 rfl rfl rfl (by decide) rfl]
      rw [zs_iload_n (ls := [some (.ref 82), o1, some (.int v2), some (.int v3), some (.int v4), o5, o6]) zd_173_184 rfl]
      rw [zs_iload_n (ls := [some (.ref 82), o1, some (.int v2), some (.int v3), some (.int v4), o5, o6]) zd_173_185 rfl]
      by_cases c11 : v3 = 0
      · rw [if_pos c11] at H
        rw [zp_if_eq_t (x := v3) (t := 196) zd_173_186 rfl c11]
        rw [zs_iconst (z := 0) zd_173_196 (by decide)]
        exact zt_M_run_197 (hk68 := hk68) H
      · rw [if_neg c11] at H
        rw [zp_if_eq_f (x := v3) (t := 196) zd_173_186 rfl c11]
        rw [zs_aload_n (ls := [some (.ref 82), o1, some (.int v2), some (.int v3), some (.int v4), o5, o6]) zd_173_189 rfl]
        obtain ⟨r21, hr21, H⟩ := Option.bind_eq_some_iff.mp H
        rw [zp_callVi (x := r21) (st := [.ref 82, .int v2, .ref 113]) (as := [.ref 82]) (rest := [.int v2, .ref 113]) (e := 2) zd_173_190 rfl (by decide +kernel) (by decide) rfl rfl (Nat.le_of_ble_eq_true rfl) (zx_rcb_ok rfl (show 82 < 119 by decide)) (Nat.le_of_ble_eq_true rfl) rfl (by decide) (zt_M_lastKind hr21)]
        rw [zs_goto (t := 197) zd_173_193 rfl]
        exact zt_M_run_197 (hk68 := hk68) H
    · rw [if_neg c9] at H
      rw [zp_icmp_ge_f (x := v4) (y := (σ 82 17)) (t := 175) zd_173_97 rfl c9]
      rw [zs_aload_n (ls := [some (.ref 82), o1, some (.int v2), some (.int v3), some (.int v4), o5, o6]) zd_173_100 rfl]
      rw [zs_iload_n (ls := [some (.ref 82), o1, some (.int v2), some (.int v3), some (.int v4), o5, o6]) zd_173_101 rfl]
      obtain ⟨r22, hr22, H⟩ := Option.bind_eq_some_iff.mp H
      rw [zp_callVv (st := [.int v2, .ref 82]) (as := [.ref 82, .int v2]) (rest := []) (e := 0) zd_173_102 rfl (by decide +kernel) (by decide) rfl rfl (Nat.le_of_ble_eq_true rfl) (zx_rcb_ok rfl (show 82 < 119 by decide)) (Nat.le_of_ble_eq_true rfl) rfl (by decide) (zt_M_load hr22)]
      rw [zs_aload_n (ls := [some (.ref 82), o1, some (.int v2), some (.int v3), some (.int v4), o5, o6]) zd_173_105 rfl]
      rw [zs_iload (ls := [some (.ref 82), o1, some (.int v2), some (.int v3), some (.int v4), o5, o6]) zd_173_106 rfl]
      obtain ⟨r23, hr23, H⟩ := Option.bind_eq_some_iff.mp H
      rw [zp_callVi (x := r23) (st := [.int v4, .ref 82]) (as := [.ref 82, .int v4]) (rest := []) (e := 2) zd_173_108 rfl (by decide +kernel) (by decide) rfl rfl (Nat.le_of_ble_eq_true rfl) (zx_rcb_ok rfl (show 82 < 119 by decide)) (Nat.le_of_ble_eq_true rfl) rfl (by decide) (zt_M_canStep hr23)]
      by_cases c24 : r23 = 0
      · rw [if_pos c24] at H
        rw [zp_if_eq_t (x := r23) (t := 169) zd_173_111 rfl c24]
        exact zt_M_run_169 (hk91 := ih) H
      · rw [if_neg c24] at H
        rw [zp_if_eq_f (x := r23) (t := 169) zd_173_111 rfl c24]
        rw [zs_iconst (z := 0) zd_173_114 (by decide)]
        rw [zs_istore_n (x := 0) (ls' := [some (.ref 82), o1, some (.int v2), some (.int 0), some (.int v4), o5, o6]) zd_173_115 (Nat.le_of_ble_eq_true rfl) rfl]
        rw [zs_aload_n (ls := [some (.ref 82), o1, some (.int v2), some (.int 0), some (.int v4), o5, o6]) zd_173_116 rfl]
        rw [zs_iload (ls := [some (.ref 82), o1, some (.int v2), some (.int 0), some (.int v4), o5, o6]) zd_173_117 rfl]
        obtain ⟨r25, hr25, H⟩ := Option.bind_eq_some_iff.mp H
        rw [zp_callVv (st := [.int v4, .ref 82]) (as := [.ref 82, .int v4]) (rest := []) (e := 3) zd_173_119 rfl (by decide +kernel) (by decide) rfl rfl (Nat.le_of_ble_eq_true rfl) (zx_rcb_ok rfl (show 82 < 119 by decide)) (Nat.le_of_ble_eq_true rfl) rfl (by decide) (zt_M_doStep hr25)]
        rw [zs_aload_n (ls := [some (.ref 82), o1, some (.int v2), some (.int 0), some (.int v4), o5, o6]) zd_173_122 rfl]
        rw [zp_getI (n := 119) (K := zx_pk (zK L) 119) (σ := r25) (c := 12) (k := 52) (q := 82) (v := (r25 82 52)) zd_173_123 rfl rfl rfl (by decide) rfl]
        rw [zs_istore (x := (r25 82 52)) (ls' := [some (.ref 82), o1, some (.int v2), some (.int 0), some (.int v4), some (.int (r25 82 52)), o6]) zd_173_126 (Nat.le_of_ble_eq_true rfl) rfl]
        rw [zs_aload_n (ls := [some (.ref 82), o1, some (.int v2), some (.int 0), some (.int v4), some (.int (r25 82 52)), o6]) zd_173_128 rfl]
        obtain ⟨r26, hr26, H⟩ := Option.bind_eq_some_iff.mp H
        rw [zp_callVi (x := r26.1) (st := [.ref 82]) (as := [.ref 82]) (rest := []) (e := 0) zd_173_129 rfl (by decide +kernel) (by decide) rfl rfl (Nat.le_of_ble_eq_true rfl) (zx_rcb_ok rfl (show 82 < 119 by decide)) (Nat.le_of_ble_eq_true rfl) rfl (by decide) (zt_M_put hr26)]
        rw [zs_istore (x := r26.1) (ls' := [some (.ref 82), o1, some (.int v2), some (.int 0), some (.int v4), some (.int (r25 82 52)), some (.int r26.1)]) zd_173_132 (Nat.le_of_ble_eq_true rfl) rfl]
        rw [zs_iload (ls := [some (.ref 82), o1, some (.int v2), some (.int 0), some (.int v4), some (.int (r25 82 52)), some (.int r26.1)]) zd_173_134 rfl]
        rw [zs_iconst (z := (-1)) zd_173_136 (by decide)]
        by_cases c27 : ¬ r26.1 = (-1)
        · rw [if_pos c27] at H
          rw [zp_icmp_ne_t (x := r26.1) (y := (-1)) (t := 143) zd_173_137 rfl c27]
          rw [zs_aload_n (ls := [some (.ref 82), o1, some (.int v2), some (.int 0), some (.int v4), some (.int (r25 82 52)), some (.int r26.1)]) zd_173_143 rfl]
          rw [zp_getI (n := 119) (K := zx_pk (zK L) 119) (σ := r26.2) (c := 12) (k := 52) (q := 82) (v := (r26.2 82 52)) zd_173_144 rfl rfl rfl (by decide) rfl]
          rw [zs_iload (ls := [some (.ref 82), o1, some (.int v2), some (.int 0), some (.int v4), some (.int (r25 82 52)), some (.int r26.1)]) zd_173_147 rfl]
          by_cases c28 : (r26.2 82 52) ≤ (r25 82 52)
          · rw [if_pos c28] at H
            rw [zp_icmp_le_t (x := (r26.2 82 52)) (y := (r25 82 52)) (t := 169) zd_173_149 rfl c28]
            exact zt_M_run_169 (hk91 := ih) H
          · rw [if_neg c28] at H
            rw [zp_icmp_le_f (x := (r26.2 82 52)) (y := (r25 82 52)) (t := 169) zd_173_149 rfl c28]
            rw [zs_aload_n (ls := [some (.ref 82), o1, some (.int v2), some (.int 0), some (.int v4), some (.int (r25 82 52)), some (.int r26.1)]) zd_173_152 rfl]
            rw [zs_getR (n := 119) (K := zx_pk (zK L) 119) (ρ := zR) (c := 12) (k := 55) (q := 82) (p := 111) zd_173_153 rfl rfl rfl (by decide) rfl]
            rw [zs_iload (ls := [some (.ref 82), o1, some (.int v2), some (.int 0), some (.int v4), some (.int (r25 82 52)), some (.int r26.1)]) zd_173_156 rfl]
            rw [zs_iload_n (ls := [some (.ref 82), o1, some (.int v2), some (.int 0), some (.int v4), some (.int (r25 82 52)), some (.int r26.1)]) zd_173_158 rfl]
            by_cases c29 : 0 ≤ r26.1 ∧ r26.1 < 4000
            · rw [if_pos c29] at H
              rw [zp_iastore (n := 119) (K := zx_pk (zK L) 119) (q := 111) (m := 4000) (i := r26.1) (k := r26.1.toNatClampNeg) (x := v2) (z := v2) zd_173_159 rfl ⟨by decide, by decide⟩ (zJ_in c29 rfl) rfl rfl]
              rw [zs_aload_n (ls := [some (.ref 82), o1, some (.int v2), some (.int 0), some (.int v4), some (.int (r25 82 52)), some (.int r26.1)]) zd_173_160 rfl]
              rw [zs_getR (n := 119) (K := zx_pk (zK L) 119) (ρ := zR) (c := 12) (k := 56) (q := 82) (p := 112) zd_173_161 rfl rfl rfl (by decide) rfl]
              rw [zs_iload (ls := [some (.ref 82), o1, some (.int v2), some (.int 0), some (.int v4), some (.int (r25 82 52)), some (.int r26.1)]) zd_173_164 rfl]
              rw [zs_iload (ls := [some (.ref 82), o1, some (.int v2), some (.int 0), some (.int v4), some (.int (r25 82 52)), some (.int r26.1)]) zd_173_166 rfl]
              by_cases c30 : 0 ≤ r26.1 ∧ r26.1 < 4000
              · rw [if_pos c30] at H
                rw [zp_iastore (n := 119) (K := zx_pk (zK L) 119) (q := 112) (m := 4000) (i := r26.1) (k := r26.1.toNatClampNeg) (x := v4) (z := v4) zd_173_168 rfl ⟨by decide, by decide⟩ (zJ_in c30 rfl) rfl rfl]
                exact zt_M_run_169 (hk91 := ih) H
              · rw [if_neg c30] at H
                cases H
            · rw [if_neg c29] at H
              cases H
        · rw [if_neg c27] at H
          rw [zp_icmp_ne_f (x := r26.1) (y := (-1)) (t := 143) zd_173_137 rfl c27]
          rw [zs_bipush (z := (-103)) zd_173_140 (by decide)]
          have H := Option.some.inj H
          subst H
          exact zs_ireturn zd_173_142 (by decide +kernel)
set_option maxRecDepth 20000 in
theorem zt_M_run_68 {a b L N : Nat} : ∀ {n : Nat} {σ : zS} {τ : zT} {v2 : Int32} {o1 : Option Value} {o3 : Option Value} {o4 : Option Value} {o5 : Option Value} {o6 : Option Value} {r : Int32 × zS}, zb_M_run_68 N n σ v2 = some r → zx_go 4 173 68 [some (.ref 82), o1, some (.int v2), o3, o4, o5, o6] [] ((119, a, b), zx_pk (zK L) 119, σ, τ, zR) = some (some (.int r.1), ((119, a, b), zx_pk (zK L) 119, r.2, τ, zR)) := by
  intro n
  induction n with
  | zero =>
    intro _ _ _ _ _ _ _ _ _ H
    cases H
  | succ n ih =>
    intro σ τ v2 o1 o3 o4 o5 o6 r H
    rw [zb_M_run_68] at H
    rw [zs_iload_n (ls := [some (.ref 82), o1, some (.int v2), o3, o4, o5, o6]) zd_173_68 rfl]
    rw [zs_aload_n (ls := [some (.ref 82), o1, some (.int v2), o3, o4, o5, o6]) zd_173_69 rfl]
    rw [zp_getI (n := 119) (K := zx_pk (zK L) 119) (σ := σ) (c := 12) (k := 52) (q := 82) (v := (σ 82 52)) zd_173_70 rfl rfl rfl (by decide) rfl]
    by_cases c6 : (σ 82 52) ≤ v2
    · rw [if_pos c6] at H
      rw [zp_icmp_ge_t (x := v2) (y := (σ 82 52)) (t := 281) zd_173_73 rfl c6]
      rw [zs_aload_n (ls := [some (.ref 82), o1, some (.int v2), o3, o4, o5, o6]) zd_173_281 rfl]
      rw [zs_aload_n (ls := [some (.ref 82), o1, some (.int v2), o3, o4, o5, o6]) zd_173_282 rfl]
      rw [zp_getI (n := 119) (K := zx_pk (zK L) 119) (σ := σ) (c := 12) (k := 52) (q := 82) (v := (σ 82 52)) zd_173_283 rfl rfl rfl (by decide) rfl]
      rw [zs_putI (n := 119) (K := zx_pk (zK L) 119) (c := 12) (k := 54) (q := 82) (x := (σ 82 52)) zd_173_286 rfl rfl (by decide +kernel) rfl (by decide)]
      rw [zs_aload_n (ls := [some (.ref 82), o1, some (.int v2), o3, o4, o5, o6]) zd_173_289 rfl]
      rw [zs_iconst (z := 1) zd_173_290 (by decide)]
      rw [zs_putZ (n := 119) (K := zx_pk (zK L) 119) (c := 12) (k := 53) (q := 82) (x := 1) zd_173_291 rfl rfl (by decide +kernel) rfl (by decide) rfl]
      rw [zs_aload_n (ls := [some (.ref 82), o1, some (.int v2), o3, o4, o5, o6]) zd_173_294 rfl]
      rw [zp_getI (n := 119) (K := zx_pk (zK L) 119) (σ := (zx_up (zx_up σ 82 54 (σ 82 52)) 82 53 1)) (c := 12) (k := 54) (q := 82) (v := (σ 82 52)) zd_173_295 rfl rfl rfl (by decide) (show ((zx_up (zx_up σ 82 54 (σ 82 52)) 82 53 1) : zS) 82 54 = (σ 82 52) from ((zx_up_nj (by decide)).trans zx_up_at))]
      have H := Option.some.inj H
      subst H
      exact zs_ireturn zd_173_298 rfl
    · rw [if_neg c6] at H
      rw [zp_icmp_ge_f (x := v2) (y := (σ 82 52)) (t := 281) zd_173_73 rfl c6]
      rw [zs_aload_n (ls := [some (.ref 82), o1, some (.int v2), o3, o4, o5, o6]) zd_173_76 rfl]
      rw [zs_iload_n (ls := [some (.ref 82), o1, some (.int v2), o3, o4, o5, o6]) zd_173_77 rfl]
      obtain ⟨r7, hr7, H⟩ := Option.bind_eq_some_iff.mp H
      rw [zp_callVv (st := [.int v2, .ref 82]) (as := [.ref 82, .int v2]) (rest := []) (e := 0) zd_173_78 rfl (by decide +kernel) (by decide) rfl rfl (Nat.le_of_ble_eq_true rfl) (zx_rcb_ok rfl (show 82 < 119 by decide)) (Nat.le_of_ble_eq_true rfl) rfl (by decide) (zt_M_load hr7)]
      rw [zs_aload_n (ls := [some (.ref 82), o1, some (.int v2), o3, o4, o5, o6]) zd_173_81 rfl]
      rw [zs_iload_n (ls := [some (.ref 82), o1, some (.int v2), o3, o4, o5, o6]) zd_173_82 rfl]
      obtain ⟨r8, hr8, H⟩ := Option.bind_eq_some_iff.mp H
      rw [zp_callVv (st := [.int v2, .ref 82]) (as := [.ref 82, .int v2]) (rest := []) (e := 2) zd_173_83 rfl (by decide +kernel) (by decide) rfl rfl (Nat.le_of_ble_eq_true rfl) (zx_rcb_ok rfl (show 82 < 119 by decide)) (Nat.le_of_ble_eq_true rfl) rfl (by decide) (zt_M_lookForRaces hr8)]
      rw [zs_iconst (z := 1) zd_173_86 (by decide)]
      rw [zs_istore_n (x := 1) (ls' := [some (.ref 82), o1, some (.int v2), some (.int 1), o4, o5, o6]) zd_173_87 (Nat.le_of_ble_eq_true rfl) rfl]
      rw [zs_iconst (z := 0) zd_173_88 (by decide)]
      rw [zs_istore (x := 0) (ls' := [some (.ref 82), o1, some (.int v2), some (.int 1), some (.int 0), o5, o6]) zd_173_89 (Nat.le_of_ble_eq_true rfl) rfl]
      exact zt_M_run_91 (hk68 := ih) H
set_option maxRecDepth 20000 in
theorem zt_M_run_37 {a b L N : Nat} : ∀ {n : Nat} {σ : zS} {τ : zT} {v1 : Int32} {o2 : Option Value} {o3 : Option Value} {o4 : Option Value} {o5 : Option Value} {o6 : Option Value} {r : Int32 × zS}, zb_M_run_37 N n σ v1 = some r → zx_go 4 173 37 [some (.ref 82), some (.int v1), o2, o3, o4, o5, o6] [] ((119, a, b), zx_pk (zK L) 119, σ, τ, zR) = some (some (.int r.1), ((119, a, b), zx_pk (zK L) 119, r.2, τ, zR)) := by
  intro n
  induction n with
  | zero =>
    intro _ _ _ _ _ _ _ _ _ H
    cases H
  | succ n ih =>
    intro σ τ v1 o2 o3 o4 o5 o6 r H
    rw [zb_M_run_37] at H
    rw [zs_iload_n (ls := [some (.ref 82), some (.int v1), o2, o3, o4, o5, o6]) zd_173_37 rfl]
    rw [zs_sipush (z := 9216) zd_173_38 (by decide)]
    by_cases c3 : 9216 ≤ v1
    · rw [if_pos c3] at H
      rw [zp_icmp_ge_t (x := v1) (y := 9216) (t := 57) zd_173_41 rfl c3]
      rw [zs_aload_n (ls := [some (.ref 82), some (.int v1), o2, o3, o4, o5, o6]) zd_173_57 rfl]
      obtain ⟨r4, hr4, H⟩ := Option.bind_eq_some_iff.mp H
      rw [zp_callVv (st := [.ref 82]) (as := [.ref 82]) (rest := []) (e := 3) zd_173_58 rfl (by decide +kernel) (by decide) rfl rfl (Nat.le_of_ble_eq_true rfl) (zx_rcb_ok rfl (show 82 < 119 by decide)) (Nat.le_of_ble_eq_true rfl) rfl (by decide) (zt_M_firstState hr4)]
      rw [zs_aload_n (ls := [some (.ref 82), some (.int v1), o2, o3, o4, o5, o6]) zd_173_61 rfl]
      obtain ⟨r5, hr5, H⟩ := Option.bind_eq_some_iff.mp H
      rw [zp_callVi (x := r5.1) (st := [.ref 82]) (as := [.ref 82]) (rest := []) (e := 0) zd_173_62 rfl (by decide +kernel) (by decide) rfl rfl (Nat.le_of_ble_eq_true rfl) (zx_rcb_ok rfl (show 82 < 119 by decide)) (Nat.le_of_ble_eq_true rfl) rfl (by decide) (zt_M_put hr5)]
      rw [zs_istore_n (x := r5.1) (ls' := [some (.ref 82), some (.int r5.1), o2, o3, o4, o5, o6]) zd_173_65 (Nat.le_of_ble_eq_true rfl) rfl]
      rw [zs_iconst (z := 0) zd_173_66 (by decide)]
      rw [zs_istore_n (x := 0) (ls' := [some (.ref 82), some (.int r5.1), some (.int 0), o3, o4, o5, o6]) zd_173_67 (Nat.le_of_ble_eq_true rfl) rfl]
      exact zt_M_run_68  H
    · rw [if_neg c3] at H
      rw [zp_icmp_ge_f (x := v1) (y := 9216) (t := 57) zd_173_41 rfl c3]
      rw [zs_aload_n (ls := [some (.ref 82), some (.int v1), o2, o3, o4, o5, o6]) zd_173_44 rfl]
      rw [zs_getR (n := 119) (K := zx_pk (zK L) 119) (ρ := zR) (c := 12) (k := 58) (q := 82) (p := 114) zd_173_45 rfl rfl rfl (by decide) rfl]
      rw [zs_iload_n (ls := [some (.ref 82), some (.int v1), o2, o3, o4, o5, o6]) zd_173_48 rfl]
      rw [zs_iconst (z := 0) zd_173_49 (by decide)]
      by_cases c31 : 0 ≤ v1 ∧ v1 < 9216
      · rw [if_pos c31] at H
        rw [zp_iastore (n := 119) (K := zx_pk (zK L) 119) (q := 114) (m := 9216) (i := v1) (k := v1.toNatClampNeg) (x := 0) (z := 0) zd_173_50 rfl ⟨by decide, by decide⟩ (zJ_in c31 rfl) rfl rfl]
        rw [zs_iinc (ls := [some (.ref 82), some (.int v1), o2, o3, o4, o5, o6]) (x := v1) (z := (v1 + 1)) (ls' := [some (.ref 82), some (.int (v1 + 1)), o2, o3, o4, o5, o6]) zd_173_51 rfl rfl rfl]
        rw [zs_goto (t := 37) zd_173_54 rfl]
        exact ih H
      · rw [if_neg c31] at H
        cases H
set_option maxRecDepth 20000 in
theorem zt_M_run {a b L N : Nat} {σ : zS} {τ : zT} {r : Int32 × zS} (H : zf_M_run N σ = some r) : zx_go 4 173 0 [some (.ref 82), none, none, none, none, none, none] [] ((119, a, b), zx_pk (zK L) 119, σ, τ, zR) = some (some (.int r.1), ((119, a, b), zx_pk (zK L) 119, r.2, τ, zR)) := by
  unfold zf_M_run at H
  rw [zs_aload_n (ls := [some (.ref 82), none, none, none, none, none, none]) zd_173_0 rfl]
  rw [zs_iconst (z := 0) zd_173_1 (by decide)]
  rw [zs_putI (n := 119) (K := zx_pk (zK L) 119) (c := 12) (k := 0) (q := 82) (x := 0) zd_173_2 rfl rfl (by decide +kernel) rfl (by decide)]
  rw [zs_aload_n (ls := [some (.ref 82), none, none, none, none, none, none]) zd_173_5 rfl]
  rw [zp_getZ (n := 119) (K := zx_pk (zK L) 119) (σ := (zx_up σ 82 0 0)) (c := 12) (k := 21) (q := 82) (v := (σ 82 21)) zd_173_6 rfl rfl rfl (by decide) (show ((zx_up σ 82 0 0) : zS) 82 21 = (σ 82 21) from ((zx_up_nj (by decide)).trans rfl))]
  by_cases c1 : ¬ (σ 82 21) = 0
  · rw [if_pos c1] at H
    rw [zp_if_ne_t (x := (σ 82 21)) (t := 15) zd_173_9 rfl c1]
    rw [zs_aload_n (ls := [some (.ref 82), none, none, none, none, none, none]) zd_173_15 rfl]
    rw [zs_iconst (z := 0) zd_173_16 (by decide)]
    rw [zs_putZ (n := 119) (K := zx_pk (zK L) 119) (c := 12) (k := 53) (q := 82) (x := 0) zd_173_17 rfl rfl (by decide +kernel) rfl (by decide) rfl]
    rw [zs_aload_n (ls := [some (.ref 82), none, none, none, none, none, none]) zd_173_20 rfl]
    rw [zs_iconst (z := (-1)) zd_173_21 (by decide)]
    rw [zs_putI (n := 119) (K := zx_pk (zK L) 119) (c := 12) (k := 62) (q := 82) (x := (-1)) zd_173_22 rfl rfl (by decide +kernel) rfl (by decide)]
    rw [zs_aload_n (ls := [some (.ref 82), none, none, none, none, none, none]) zd_173_25 rfl]
    rw [zs_iconst (z := 0) zd_173_26 (by decide)]
    obtain ⟨r2, hr2, H⟩ := Option.bind_eq_some_iff.mp H
    rw [zp_callVv (st := [.int 0, .ref 82]) (as := [.ref 82, .int 0]) (rest := []) (e := 0) zd_173_27 rfl (by decide +kernel) (by decide) rfl rfl (Nat.le_of_ble_eq_true rfl) (zx_rcb_ok rfl (show 82 < 119 by decide)) (Nat.le_of_ble_eq_true rfl) rfl (by decide) (zt_M_forget hr2)]
    rw [zs_aload_n (ls := [some (.ref 82), none, none, none, none, none, none]) zd_173_30 rfl]
    rw [zs_iconst (z := 0) zd_173_31 (by decide)]
    rw [zs_putI (n := 119) (K := zx_pk (zK L) 119) (c := 12) (k := 60) (q := 82) (x := 0) zd_173_32 rfl rfl (by decide +kernel) rfl (by decide)]
    rw [zs_iconst (z := 0) zd_173_35 (by decide)]
    rw [zs_istore_n (x := 0) (ls' := [some (.ref 82), some (.int 0), none, none, none, none, none]) zd_173_36 (Nat.le_of_ble_eq_true rfl) rfl]
    exact zt_M_run_37  H
  · rw [if_neg c1] at H
    rw [zp_if_ne_f (x := (σ 82 21)) (t := 15) zd_173_9 rfl c1]
    rw [zs_bipush (z := (-101)) zd_173_12 (by decide)]
    have H := Option.some.inj H
    subst H
    exact zs_ireturn zd_173_14 (by decide +kernel)
set_option maxRecDepth 20000 in
theorem zt_X_found {a b L : Nat} {σ : zS} {τ : zT} {x1 : Int32} {r : Int32} (H : zf_X_found σ x1 = some r) : zx_go 0 194 0 [some (.ref 2), some (.int x1)] [] ((119, a, b), zx_pk (zK L) 119, σ, τ, zR) = some (some (.int r), ((119, a, b), zx_pk (zK L) 119, σ, τ, zR)) := by
  unfold zf_X_found at H
  rw [zs_aload_n (ls := [some (.ref 2), some (.int x1)]) zd_194_0 rfl]
  rw [zp_getZ (n := 119) (K := zx_pk (zK L) 119) (σ := σ) (c := 11) (k := 15) (q := 2) (v := (σ 2 15)) zd_194_1 rfl rfl rfl (by decide) rfl]
  by_cases c1 : ¬ (σ 2 15) = 0
  · rw [if_pos c1] at H
    rw [zp_if_ne_t (x := (σ 2 15)) (t := 10) zd_194_4 rfl c1]
    rw [zs_iload_n (ls := [some (.ref 2), some (.int x1)]) zd_194_10 rfl]
    by_cases c2 : x1 = 0
    · rw [if_pos c2] at H
      rw [zs_table (x := x1) (off := 33) (t := 44) zd_194_11 (by rw [c2]; decide) rfl]
      rw [zs_aload_n (ls := [some (.ref 2), some (.int x1)]) zd_194_44 rfl]
      rw [zs_getR (n := 119) (K := zx_pk (zK L) 119) (ρ := zR) (c := 11) (k := 5) (q := 2) (p := 46) zd_194_45 rfl rfl rfl (by decide) rfl]
      rw [zs_getR (n := 119) (K := zx_pk (zK L) 119) (ρ := zR) (c := 0) (k := 2) (q := 46) (p := 47) zd_194_48 rfl rfl rfl (by decide) rfl]
      rw [zp_getI (n := 119) (K := zx_pk (zK L) 119) (σ := σ) (c := 4) (k := 1) (q := 47) (v := (σ 47 1)) zd_194_51 rfl rfl rfl (by decide) rfl]
      have H := Option.some.inj H
      subst H
      exact zs_ireturn zd_194_54 rfl
    · rw [if_neg c2] at H
      by_cases c3 : x1 = 1
      · rw [if_pos c3] at H
        rw [zs_table (x := x1) (off := 44) (t := 55) zd_194_11 (by rw [c3]; decide) rfl]
        rw [zs_aload_n (ls := [some (.ref 2), some (.int x1)]) zd_194_55 rfl]
        rw [zs_getR (n := 119) (K := zx_pk (zK L) 119) (ρ := zR) (c := 11) (k := 5) (q := 2) (p := 46) zd_194_56 rfl rfl rfl (by decide) rfl]
        rw [zs_getR (n := 119) (K := zx_pk (zK L) 119) (ρ := zR) (c := 0) (k := 3) (q := 46) (p := 49) zd_194_59 rfl rfl rfl (by decide) rfl]
        rw [zp_getI (n := 119) (K := zx_pk (zK L) 119) (σ := σ) (c := 4) (k := 1) (q := 49) (v := (σ 49 1)) zd_194_62 rfl rfl rfl (by decide) rfl]
        have H := Option.some.inj H
        subst H
        exact zs_ireturn zd_194_65 rfl
      · rw [if_neg c3] at H
        by_cases c4 : x1 = 2
        · rw [if_pos c4] at H
          rw [zs_table (x := x1) (off := 55) (t := 66) zd_194_11 (by rw [c4]; decide) rfl]
          rw [zs_aload_n (ls := [some (.ref 2), some (.int x1)]) zd_194_66 rfl]
          rw [zs_getR (n := 119) (K := zx_pk (zK L) 119) (ρ := zR) (c := 11) (k := 5) (q := 2) (p := 46) zd_194_67 rfl rfl rfl (by decide) rfl]
          rw [zs_getR (n := 119) (K := zx_pk (zK L) 119) (ρ := zR) (c := 0) (k := 5) (q := 46) (p := 53) zd_194_70 rfl rfl rfl (by decide) rfl]
          rw [zp_getI (n := 119) (K := zx_pk (zK L) 119) (σ := σ) (c := 4) (k := 1) (q := 53) (v := (σ 53 1)) zd_194_73 rfl rfl rfl (by decide) rfl]
          have H := Option.some.inj H
          subst H
          exact zs_ireturn zd_194_76 rfl
        · rw [if_neg c4] at H
          by_cases c5 : x1 = 3
          · rw [if_pos c5] at H
            rw [zs_table (x := x1) (off := 66) (t := 77) zd_194_11 (by rw [c5]; decide) rfl]
            rw [zs_aload_n (ls := [some (.ref 2), some (.int x1)]) zd_194_77 rfl]
            rw [zs_getR (n := 119) (K := zx_pk (zK L) 119) (ρ := zR) (c := 11) (k := 5) (q := 2) (p := 46) zd_194_78 rfl rfl rfl (by decide) rfl]
            rw [zs_getR (n := 119) (K := zx_pk (zK L) 119) (ρ := zR) (c := 0) (k := 7) (q := 46) (p := 58) zd_194_81 rfl rfl rfl (by decide) rfl]
            rw [zs_getR (n := 119) (K := zx_pk (zK L) 119) (ρ := zR) (c := 5) (k := 2) (q := 58) (p := 61) zd_194_84 rfl rfl rfl (by decide) rfl]
            rw [zp_getI (n := 119) (K := zx_pk (zK L) 119) (σ := σ) (c := 4) (k := 1) (q := 61) (v := (σ 61 1)) zd_194_87 rfl rfl rfl (by decide) rfl]
            have H := Option.some.inj H
            subst H
            exact zs_ireturn zd_194_90 rfl
          · rw [if_neg c5] at H
            by_cases c6 : x1 = 4
            · rw [if_pos c6] at H
              rw [zs_table (x := x1) (off := 80) (t := 91) zd_194_11 (by rw [c6]; decide) rfl]
              rw [zs_aload_n (ls := [some (.ref 2), some (.int x1)]) zd_194_91 rfl]
              rw [zs_getR (n := 119) (K := zx_pk (zK L) 119) (ρ := zR) (c := 11) (k := 5) (q := 2) (p := 46) zd_194_92 rfl rfl rfl (by decide) rfl]
              rw [zs_getR (n := 119) (K := zx_pk (zK L) 119) (ρ := zR) (c := 0) (k := 4) (q := 46) (p := 51) zd_194_95 rfl rfl rfl (by decide) rfl]
              rw [zp_getI (n := 119) (K := zx_pk (zK L) 119) (σ := σ) (c := 4) (k := 1) (q := 51) (v := (σ 51 1)) zd_194_98 rfl rfl rfl (by decide) rfl]
              have H := Option.some.inj H
              subst H
              exact zs_ireturn zd_194_101 rfl
            · rw [if_neg c6] at H
              rw [zs_table (x := x1) (off := 91) (t := 102) zd_194_11 (if_pos (by have e : ∀ z : Int32, ¬ x1 = z → ¬ (x1 : Int32).toInt = z.toInt := fun z h q => h (Int32.toInt_inj.mp q); have q0 := e 0 c2; have q1 := e 1 c3; have q2 := e 2 c4; have q3 := e 3 c5; have q4 := e 4 c6; simp only [show (0 : Int32).toInt = 0 from rfl, show (1 : Int32).toInt = 1 from rfl, show (2 : Int32).toInt = 2 from rfl, show (3 : Int32).toInt = 3 from rfl, show (4 : Int32).toInt = 4 from rfl] at q0 q1 q2 q3 q4; omega)) rfl]
              rw [zs_bipush (z := (-102)) zd_194_102 (by decide)]
              have H := Option.some.inj H
              subst H
              exact zs_ireturn zd_194_104 (by decide +kernel)
  · rw [if_neg c1] at H
    rw [zp_if_ne_f (x := (σ 2 15)) (t := 10) zd_194_4 rfl c1]
    rw [zs_bipush (z := (-101)) zd_194_7 (by decide)]
    have H := Option.some.inj H
    subst H
    exact zs_ireturn zd_194_9 (by decide +kernel)
set_option maxRecDepth 20000 in
theorem zt_M_isOf_87 {a b L N : Nat} {k47 : zS → Int32 → Int32 → Int32 → Option (Int32)} (hk47 : ∀ {σ : zS} {τ : zT} {v1 : Int32} {v3 : Int32} {v4 : Int32} {o2 : Option Value} {r : Int32}, k47 σ v1 v3 v4 = some r → zx_go 1 197 47 [some (.ref 82), some (.int v1), o2, some (.int v3), some (.int v4)] [] ((119, a, b), zx_pk (zK L) 119, σ, τ, zR) = some (some (.int r), ((119, a, b), zx_pk (zK L) 119, σ, τ, zR))) {σ : zS} {τ : zT} {v1 : Int32} {v4 : Int32} {s0 : Int32} {o2 : Option Value} {o3 : Option Value} {r : Int32} (H : zb_M_isOf_87 k47 N σ v1 v4 s0 = some r) : zx_go 1 197 87 [some (.ref 82), some (.int v1), o2, o3, some (.int v4)] [.int s0] ((119, a, b), zx_pk (zK L) 119, σ, τ, zR) = some (some (.int r), ((119, a, b), zx_pk (zK L) 119, σ, τ, zR)) := by
  unfold zb_M_isOf_87 at H
  rw [zs_istore_n (x := s0) (ls' := [some (.ref 82), some (.int v1), (zJ_cl o2), some (.int s0), some (.int v4)]) zd_197_87 (Nat.le_of_ble_eq_true rfl) (zJ_s1 (k := 2) (o := o2) rfl)]
  rw [zs_iinc (ls := [some (.ref 82), some (.int v1), (zJ_cl o2), some (.int s0), some (.int v4)]) (x := v4) (z := (v4 + 1)) (ls' := [some (.ref 82), some (.int v1), (zJ_cl o2), some (.int s0), some (.int (v4 + 1))]) zd_197_88 rfl rfl rfl]
  rw [zs_goto (t := 47) zd_197_91 rfl]
  exact hk47 H
set_option maxRecDepth 20000 in
theorem zt_M_isOf_82 {a b L N : Nat} {k47 : zS → Int32 → Int32 → Int32 → Option (Int32)} (hk47 : ∀ {σ : zS} {τ : zT} {v1 : Int32} {v3 : Int32} {v4 : Int32} {o2 : Option Value} {r : Int32}, k47 σ v1 v3 v4 = some r → zx_go 1 197 47 [some (.ref 82), some (.int v1), o2, some (.int v3), some (.int v4)] [] ((119, a, b), zx_pk (zK L) 119, σ, τ, zR) = some (some (.int r), ((119, a, b), zx_pk (zK L) 119, σ, τ, zR))) {σ : zS} {τ : zT} {v1 : Int32} {v4 : Int32} {o2 : Option Value} {o3 : Option Value} {r : Int32} (H : zb_M_isOf_82 k47 N σ v1 v4 = some r) : zx_go 1 197 82 [some (.ref 82), some (.int v1), o2, o3, some (.int v4)] [] ((119, a, b), zx_pk (zK L) 119, σ, τ, zR) = some (some (.int r), ((119, a, b), zx_pk (zK L) 119, σ, τ, zR)) := by
  unfold zb_M_isOf_82 at H
  rw [zs_iconst (z := 1) zd_197_82 (by decide)]
  rw [zs_goto (t := 87) zd_197_83 rfl]
  exact zt_M_isOf_87 (hk47 := hk47) H
set_option maxRecDepth 20000 in
theorem zt_M_isOf_47 {a b L N : Nat} : ∀ {n : Nat} {σ : zS} {τ : zT} {v1 : Int32} {v3 : Int32} {v4 : Int32} {o2 : Option Value} {r : Int32}, zb_M_isOf_47 N n σ v1 v3 v4 = some r → zx_go 1 197 47 [some (.ref 82), some (.int v1), o2, some (.int v3), some (.int v4)] [] ((119, a, b), zx_pk (zK L) 119, σ, τ, zR) = some (some (.int r), ((119, a, b), zx_pk (zK L) 119, σ, τ, zR)) := by
  intro n
  induction n with
  | zero =>
    intro _ _ _ _ _ _ _ H
    cases H
  | succ n ih =>
    intro σ τ v1 v3 v4 o2 r H
    rw [zb_M_isOf_47] at H
    rw [zs_iload (ls := [some (.ref 82), some (.int v1), o2, some (.int v3), some (.int v4)]) zd_197_47 rfl]
    rw [zs_aload_n (ls := [some (.ref 82), some (.int v1), o2, some (.int v3), some (.int v4)]) zd_197_49 rfl]
    rw [zp_getI (n := 119) (K := zx_pk (zK L) 119) (σ := σ) (c := 12) (k := 17) (q := 82) (v := (σ 82 17)) zd_197_50 rfl rfl rfl (by decide) rfl]
    by_cases c3 : (σ 82 17) ≤ v4
    · rw [if_pos c3] at H
      rw [zp_icmp_ge_t (x := v4) (y := (σ 82 17)) (t := 94) zd_197_53 rfl c3]
      rw [zs_iload_n (ls := [some (.ref 82), some (.int v1), o2, some (.int v3), some (.int v4)]) zd_197_94 rfl]
      by_cases c4 : v3 = 0 ∨ v3 = 1
      · rw [if_pos c4] at H
        have H := Option.some.inj H
        subst H
        exact zs_ireturn zd_197_95 (zJ_bt c4)
      · rw [if_neg c4] at H
        cases H
    · rw [if_neg c3] at H
      rw [zp_icmp_ge_f (x := v4) (y := (σ 82 17)) (t := 94) zd_197_53 rfl c3]
      rw [zs_iload_n (ls := [some (.ref 82), some (.int v1), o2, some (.int v3), some (.int v4)]) zd_197_56 rfl]
      by_cases c5 : ¬ v3 = 0
      · rw [if_pos c5] at H
        rw [zp_if_ne_t (x := v3) (t := 82) zd_197_57 rfl c5]
        exact zt_M_isOf_82 (hk47 := ih) H
      · rw [if_neg c5] at H
        rw [zp_if_ne_f (x := v3) (t := 82) zd_197_57 rfl c5]
        rw [zs_aload_n (ls := [some (.ref 82), some (.int v1), o2, some (.int v3), some (.int v4)]) zd_197_60 rfl]
        rw [zs_getR (n := 119) (K := zx_pk (zK L) 119) (ρ := zR) (c := 12) (k := 48) (q := 82) (p := 108) zd_197_61 rfl rfl rfl (by decide) rfl]
        rw [zs_bipush (z := 40) zd_197_64 (by decide)]
        rw [zs_iload_n (ls := [some (.ref 82), some (.int v1), o2, some (.int v3), some (.int v4)]) zd_197_66 rfl]
        rw [zp_imul (x := 40) (y := v1) (z := (40 * v1)) zd_197_67 rfl]
        rw [zs_aload_n (ls := [some (.ref 82), some (.int v1), o2, some (.int v3), some (.int v4)]) zd_197_68 rfl]
        rw [zs_iload (ls := [some (.ref 82), some (.int v1), o2, some (.int v3), some (.int v4)]) zd_197_69 rfl]
        obtain ⟨r6, hr6, H⟩ := Option.bind_eq_some_iff.mp H
        rw [zp_callVi (x := r6) (st := [.int v4, .ref 82, .int (40 * v1), .ref 108]) (as := [.ref 82, .int v4]) (rest := [.int (40 * v1), .ref 108]) (e := 0) zd_197_71 rfl (by decide +kernel) (by decide) rfl rfl (Nat.le_of_ble_eq_true rfl) (zx_rcb_ok rfl (show 82 < 119 by decide)) (Nat.le_of_ble_eq_true rfl) rfl (by decide) (zt_M_at hr6)]
        rw [zp_iadd (x := (40 * v1)) (y := r6) (z := ((40 * v1) + r6)) zd_197_74 rfl]
        rw [zs_iconst (z := 1) zd_197_75 (by decide)]
        rw [zp_iadd (x := ((40 * v1) + r6)) (y := 1) (z := (((40 * v1) + r6) + 1)) zd_197_76 rfl]
        by_cases c7 : 0 ≤ (((40 * v1) + r6) + 1) ∧ (((40 * v1) + r6) + 1) < 320000
        · rw [if_pos c7] at H
          rw [zp_baload (n := 119) (K := zx_pk (zK L) 119) (σ := σ) (q := 108) (m := 320000) (i := (((40 * v1) + r6) + 1)) (k := (((40 * v1) + r6) + 1).toNatClampNeg) (v := (σ 108 (((40 * v1) + r6) + 1).toNatClampNeg)) zd_197_77 rfl (by decide) (zJ_in c7 rfl) rfl rfl]
          rw [zs_iconst (z := 5) zd_197_78 (by decide)]
          by_cases c8 : ¬ (σ 108 (((40 * v1) + r6) + 1).toNatClampNeg) = 5
          · rw [if_pos c8] at H
            rw [zp_icmp_ne_t (x := (σ 108 (((40 * v1) + r6) + 1).toNatClampNeg)) (y := 5) (t := 86) zd_197_79 rfl c8]
            rw [zs_iconst (z := 0) zd_197_86 (by decide)]
            exact zt_M_isOf_87 (hk47 := ih) H
          · rw [if_neg c8] at H
            rw [zp_icmp_ne_f (x := (σ 108 (((40 * v1) + r6) + 1).toNatClampNeg)) (y := 5) (t := 86) zd_197_79 rfl c8]
            exact zt_M_isOf_82 (hk47 := ih) H
        · rw [if_neg c7] at H
          cases H
set_option maxRecDepth 20000 in
theorem zt_M_isOf {a b L N : Nat} {σ : zS} {τ : zT} {x1 : Int32} {x2 : Int32} {r : Int32} (H : zf_M_isOf N σ x1 x2 = some r) : zx_go 1 197 0 [some (.ref 82), some (.int x1), some (.int x2), none, none] [] ((119, a, b), zx_pk (zK L) 119, σ, τ, zR) = some (some (.int r), ((119, a, b), zx_pk (zK L) 119, σ, τ, zR)) := by
  unfold zf_M_isOf at H
  rw [zs_iload_n (ls := [some (.ref 82), some (.int x1), some (.int x2), none, none]) zd_197_0 rfl]
  rw [zs_iconst (z := 1) zd_197_1 (by decide)]
  by_cases c1 : ¬ x2 = 1
  · rw [if_pos c1] at H
    rw [zp_icmp_ne_t (x := x2) (y := 1) (t := 21) zd_197_2 rfl c1]
    rw [zs_iload_n (ls := [some (.ref 82), some (.int x1), some (.int x2), none, none]) zd_197_21 rfl]
    rw [zs_iconst (z := 2) zd_197_22 (by decide)]
    by_cases c2 : ¬ x2 = 2
    · rw [if_pos c2] at H
      rw [zp_icmp_ne_t (x := x2) (y := 2) (t := 42) zd_197_23 rfl c2]
      rw [zs_iconst (z := 0) zd_197_42 (by decide)]
      rw [zs_istore_n (x := 0) (ls' := [some (.ref 82), some (.int x1), some (.int x2), some (.int 0), none]) zd_197_43 (Nat.le_of_ble_eq_true rfl) rfl]
      rw [zs_iconst (z := 0) zd_197_44 (by decide)]
      rw [zs_istore (x := 0) (ls' := [some (.ref 82), some (.int x1), some (.int x2), some (.int 0), some (.int 0)]) zd_197_45 (Nat.le_of_ble_eq_true rfl) rfl]
      exact zt_M_isOf_47  H
    · rw [if_neg c2] at H
      rw [zp_icmp_ne_f (x := x2) (y := 2) (t := 42) zd_197_23 rfl c2]
      rw [zs_aload_n (ls := [some (.ref 82), some (.int x1), some (.int x2), none, none]) zd_197_26 rfl]
      rw [zs_getR (n := 119) (K := zx_pk (zK L) 119) (ρ := zR) (c := 12) (k := 57) (q := 82) (p := 113) zd_197_27 rfl rfl rfl (by decide) rfl]
      rw [zs_iload_n (ls := [some (.ref 82), some (.int x1), some (.int x2), none, none]) zd_197_30 rfl]
      by_cases c9 : 0 ≤ x1 ∧ x1 < 4000
      · rw [if_pos c9] at H
        rw [zp_iaload (n := 119) (K := zx_pk (zK L) 119) (σ := σ) (q := 113) (m := 4000) (i := x1) (k := x1.toNatClampNeg) (v := (σ 113 x1.toNatClampNeg)) zd_197_31 rfl (by decide) (zJ_in c9 rfl) rfl rfl]
        rw [zs_iconst (z := 1) zd_197_32 (by decide)]
        by_cases c10 : ¬ (σ 113 x1.toNatClampNeg) = 1
        · rw [if_pos c10] at H
          rw [zp_icmp_ne_t (x := (σ 113 x1.toNatClampNeg)) (y := 1) (t := 40) zd_197_33 rfl c10]
          rw [zs_iconst (z := 0) zd_197_40 (by decide)]
          have H := Option.some.inj H
          subst H
          exact zs_ireturn zd_197_41 (by decide +kernel)
        · rw [if_neg c10] at H
          rw [zp_icmp_ne_f (x := (σ 113 x1.toNatClampNeg)) (y := 1) (t := 40) zd_197_33 rfl c10]
          rw [zs_iconst (z := 1) zd_197_36 (by decide)]
          rw [zs_goto (t := 41) zd_197_37 rfl]
          have H := Option.some.inj H
          subst H
          exact zs_ireturn zd_197_41 (by decide +kernel)
      · rw [if_neg c9] at H
        cases H
  · rw [if_neg c1] at H
    rw [zp_icmp_ne_f (x := x2) (y := 1) (t := 21) zd_197_2 rfl c1]
    rw [zs_aload_n (ls := [some (.ref 82), some (.int x1), some (.int x2), none, none]) zd_197_5 rfl]
    rw [zs_getR (n := 119) (K := zx_pk (zK L) 119) (ρ := zR) (c := 12) (k := 57) (q := 82) (p := 113) zd_197_6 rfl rfl rfl (by decide) rfl]
    rw [zs_iload_n (ls := [some (.ref 82), some (.int x1), some (.int x2), none, none]) zd_197_9 rfl]
    by_cases c11 : 0 ≤ x1 ∧ x1 < 4000
    · rw [if_pos c11] at H
      rw [zp_iaload (n := 119) (K := zx_pk (zK L) 119) (σ := σ) (q := 113) (m := 4000) (i := x1) (k := x1.toNatClampNeg) (v := (σ 113 x1.toNatClampNeg)) zd_197_10 rfl (by decide) (zJ_in c11 rfl) rfl rfl]
      rw [zs_iconst (z := 2) zd_197_11 (by decide)]
      by_cases c12 : ¬ (σ 113 x1.toNatClampNeg) = 2
      · rw [if_pos c12] at H
        rw [zp_icmp_ne_t (x := (σ 113 x1.toNatClampNeg)) (y := 2) (t := 19) zd_197_12 rfl c12]
        rw [zs_iconst (z := 0) zd_197_19 (by decide)]
        have H := Option.some.inj H
        subst H
        exact zs_ireturn zd_197_20 (by decide +kernel)
      · rw [if_neg c12] at H
        rw [zp_icmp_ne_f (x := (σ 113 x1.toNatClampNeg)) (y := 2) (t := 19) zd_197_12 rfl c12]
        rw [zs_iconst (z := 1) zd_197_15 (by decide)]
        rw [zs_goto (t := 20) zd_197_16 rfl]
        have H := Option.some.inj H
        subst H
        exact zs_ireturn zd_197_20 (by decide +kernel)
    · rw [if_neg c11] at H
      cases H
set_option maxRecDepth 20000 in
theorem zt_M_countOf_27 {a b L N : Nat} {k4 : zS → Int32 → Int32 → Int32 → Option (Int32)} (hk4 : ∀ {σ : zS} {τ : zT} {v1 : Int32} {v2 : Int32} {v3 : Int32} {r : Int32}, k4 σ v1 v2 v3 = some r → zx_go 2 196 4 [some (.ref 82), some (.int v1), some (.int v2), some (.int v3)] [] ((119, a, b), zx_pk (zK L) 119, σ, τ, zR) = some (some (.int r), ((119, a, b), zx_pk (zK L) 119, σ, τ, zR))) {σ : zS} {τ : zT} {v1 : Int32} {v3 : Int32} {s0 : Int32} {s1 : Int32} {o2 : Option Value} {r : Int32} (H : zb_M_countOf_27 k4 N σ v1 v3 s0 s1 = some r) : zx_go 2 196 27 [some (.ref 82), some (.int v1), o2, some (.int v3)] [.int s0, .int s1] ((119, a, b), zx_pk (zK L) 119, σ, τ, zR) = some (some (.int r), ((119, a, b), zx_pk (zK L) 119, σ, τ, zR)) := by
  unfold zb_M_countOf_27 at H
  rw [zp_iadd (x := s1) (y := s0) (z := (s1 + s0)) zd_196_27 rfl]
  rw [zs_istore_n (x := (s1 + s0)) (ls' := [some (.ref 82), some (.int v1), some (.int (s1 + s0)), some (.int v3)]) zd_196_28 (Nat.le_of_ble_eq_true rfl) rfl]
  rw [zs_iinc (ls := [some (.ref 82), some (.int v1), some (.int (s1 + s0)), some (.int v3)]) (x := v3) (z := (v3 + 1)) (ls' := [some (.ref 82), some (.int v1), some (.int (s1 + s0)), some (.int (v3 + 1))]) zd_196_29 rfl rfl rfl]
  rw [zs_goto (t := 4) zd_196_32 rfl]
  exact hk4 H
set_option maxRecDepth 20000 in
theorem zt_M_countOf_4 {a b L N : Nat} : ∀ {n : Nat} {σ : zS} {τ : zT} {v1 : Int32} {v2 : Int32} {v3 : Int32} {r : Int32}, zb_M_countOf_4 N n σ v1 v2 v3 = some r → zx_go 2 196 4 [some (.ref 82), some (.int v1), some (.int v2), some (.int v3)] [] ((119, a, b), zx_pk (zK L) 119, σ, τ, zR) = some (some (.int r), ((119, a, b), zx_pk (zK L) 119, σ, τ, zR)) := by
  intro n
  induction n with
  | zero =>
    intro _ _ _ _ _ _ H
    cases H
  | succ n ih =>
    intro σ τ v1 v2 v3 r H
    rw [zb_M_countOf_4] at H
    rw [zs_iload_n (ls := [some (.ref 82), some (.int v1), some (.int v2), some (.int v3)]) zd_196_4 rfl]
    rw [zs_aload_n (ls := [some (.ref 82), some (.int v1), some (.int v2), some (.int v3)]) zd_196_5 rfl]
    rw [zp_getI (n := 119) (K := zx_pk (zK L) 119) (σ := σ) (c := 12) (k := 54) (q := 82) (v := (σ 82 54)) zd_196_6 rfl rfl rfl (by decide) rfl]
    by_cases c1 : (σ 82 54) ≤ v3
    · rw [if_pos c1] at H
      rw [zp_icmp_ge_t (x := v3) (y := (σ 82 54)) (t := 35) zd_196_9 rfl c1]
      rw [zs_iload_n (ls := [some (.ref 82), some (.int v1), some (.int v2), some (.int v3)]) zd_196_35 rfl]
      have H := Option.some.inj H
      subst H
      exact zs_ireturn zd_196_36 rfl
    · rw [if_neg c1] at H
      rw [zp_icmp_ge_f (x := v3) (y := (σ 82 54)) (t := 35) zd_196_9 rfl c1]
      rw [zs_iload_n (ls := [some (.ref 82), some (.int v1), some (.int v2), some (.int v3)]) zd_196_12 rfl]
      rw [zs_aload_n (ls := [some (.ref 82), some (.int v1), some (.int v2), some (.int v3)]) zd_196_13 rfl]
      rw [zs_iload_n (ls := [some (.ref 82), some (.int v1), some (.int v2), some (.int v3)]) zd_196_14 rfl]
      rw [zs_iload_n (ls := [some (.ref 82), some (.int v1), some (.int v2), some (.int v3)]) zd_196_15 rfl]
      obtain ⟨r2, hr2, H⟩ := Option.bind_eq_some_iff.mp H
      rw [zp_callVi (x := r2) (st := [.int v1, .int v3, .ref 82, .int v2]) (as := [.ref 82, .int v3, .int v1]) (rest := [.int v2]) (e := 1) zd_196_16 rfl (by decide +kernel) (by decide) rfl rfl (Nat.le_of_ble_eq_true rfl) (zx_rcb_ok rfl (show 82 < 119 by decide)) (Nat.le_of_ble_eq_true rfl) rfl (by decide) (zt_M_isOf hr2)]
      by_cases c3 : r2 = 0
      · rw [if_pos c3] at H
        rw [zp_if_eq_t (x := r2) (t := 26) zd_196_19 rfl c3]
        rw [zs_iconst (z := 0) zd_196_26 (by decide)]
        exact zt_M_countOf_27 (hk4 := ih) H
      · rw [if_neg c3] at H
        rw [zp_if_eq_f (x := r2) (t := 26) zd_196_19 rfl c3]
        rw [zs_iconst (z := 1) zd_196_22 (by decide)]
        rw [zs_goto (t := 27) zd_196_23 rfl]
        exact zt_M_countOf_27 (hk4 := ih) H
set_option maxRecDepth 20000 in
theorem zt_M_countOf {a b L N : Nat} {σ : zS} {τ : zT} {x1 : Int32} {r : Int32} (H : zf_M_countOf N σ x1 = some r) : zx_go 2 196 0 [some (.ref 82), some (.int x1), none, none] [] ((119, a, b), zx_pk (zK L) 119, σ, τ, zR) = some (some (.int r), ((119, a, b), zx_pk (zK L) 119, σ, τ, zR)) := by
  unfold zf_M_countOf at H
  rw [zs_iconst (z := 0) zd_196_0 (by decide)]
  rw [zs_istore_n (x := 0) (ls' := [some (.ref 82), some (.int x1), some (.int 0), none]) zd_196_1 (Nat.le_of_ble_eq_true rfl) rfl]
  rw [zs_iconst (z := 0) zd_196_2 (by decide)]
  rw [zs_istore_n (x := 0) (ls' := [some (.ref 82), some (.int x1), some (.int 0), some (.int 0)]) zd_196_3 (Nat.le_of_ble_eq_true rfl) rfl]
  exact zt_M_countOf_4  H
set_option maxRecDepth 20000 in
theorem zt_M_races_26 {a b L N : Nat} {k4 : zS → Int32 → Int32 → Option (Int32)} (hk4 : ∀ {σ : zS} {τ : zT} {v1 : Int32} {v2 : Int32} {r : Int32}, k4 σ v1 v2 = some r → zx_go 0 198 4 [some (.ref 82), some (.int v1), some (.int v2)] [] ((119, a, b), zx_pk (zK L) 119, σ, τ, zR) = some (some (.int r), ((119, a, b), zx_pk (zK L) 119, σ, τ, zR))) {σ : zS} {τ : zT} {v2 : Int32} {s0 : Int32} {s1 : Int32} {o1 : Option Value} {r : Int32} (H : zb_M_races_26 k4 N σ v2 s0 s1 = some r) : zx_go 0 198 26 [some (.ref 82), o1, some (.int v2)] [.int s0, .int s1] ((119, a, b), zx_pk (zK L) 119, σ, τ, zR) = some (some (.int r), ((119, a, b), zx_pk (zK L) 119, σ, τ, zR)) := by
  unfold zb_M_races_26 at H
  rw [zp_iadd (x := s1) (y := s0) (z := (s1 + s0)) zd_198_26 rfl]
  rw [zs_istore_n (x := (s1 + s0)) (ls' := [some (.ref 82), some (.int (s1 + s0)), some (.int v2)]) zd_198_27 (Nat.le_of_ble_eq_true rfl) rfl]
  rw [zs_iinc (ls := [some (.ref 82), some (.int (s1 + s0)), some (.int v2)]) (x := v2) (z := (v2 + 1)) (ls' := [some (.ref 82), some (.int (s1 + s0)), some (.int (v2 + 1))]) zd_198_28 rfl rfl rfl]
  rw [zs_goto (t := 4) zd_198_31 rfl]
  exact hk4 H
set_option maxRecDepth 20000 in
theorem zt_M_races_4 {a b L N : Nat} : ∀ {n : Nat} {σ : zS} {τ : zT} {v1 : Int32} {v2 : Int32} {r : Int32}, zb_M_races_4 N n σ v1 v2 = some r → zx_go 0 198 4 [some (.ref 82), some (.int v1), some (.int v2)] [] ((119, a, b), zx_pk (zK L) 119, σ, τ, zR) = some (some (.int r), ((119, a, b), zx_pk (zK L) 119, σ, τ, zR)) := by
  intro n
  induction n with
  | zero =>
    intro _ _ _ _ _ H
    cases H
  | succ n ih =>
    intro σ τ v1 v2 r H
    rw [zb_M_races_4] at H
    rw [zs_iload_n (ls := [some (.ref 82), some (.int v1), some (.int v2)]) zd_198_4 rfl]
    rw [zs_sipush (z := 9216) zd_198_5 (by decide)]
    by_cases c1 : 9216 ≤ v2
    · rw [if_pos c1] at H
      rw [zp_icmp_ge_t (x := v2) (y := 9216) (t := 34) zd_198_8 rfl c1]
      rw [zs_iload_n (ls := [some (.ref 82), some (.int v1), some (.int v2)]) zd_198_34 rfl]
      have H := Option.some.inj H
      subst H
      exact zs_ireturn zd_198_35 rfl
    · rw [if_neg c1] at H
      rw [zp_icmp_ge_f (x := v2) (y := 9216) (t := 34) zd_198_8 rfl c1]
      rw [zs_iload_n (ls := [some (.ref 82), some (.int v1), some (.int v2)]) zd_198_11 rfl]
      rw [zs_aload_n (ls := [some (.ref 82), some (.int v1), some (.int v2)]) zd_198_12 rfl]
      rw [zs_getR (n := 119) (K := zx_pk (zK L) 119) (ρ := zR) (c := 12) (k := 58) (q := 82) (p := 114) zd_198_13 rfl rfl rfl (by decide) rfl]
      rw [zs_iload_n (ls := [some (.ref 82), some (.int v1), some (.int v2)]) zd_198_16 rfl]
      by_cases c2 : 0 ≤ v2 ∧ v2 < 9216
      · rw [if_pos c2] at H
        rw [zp_iaload (n := 119) (K := zx_pk (zK L) 119) (σ := σ) (q := 114) (m := 9216) (i := v2) (k := v2.toNatClampNeg) (v := (σ 114 v2.toNatClampNeg)) zd_198_17 rfl (by decide) (zJ_in c2 rfl) rfl rfl]
        by_cases c3 : (σ 114 v2.toNatClampNeg) ≤ 0
        · rw [if_pos c3] at H
          rw [zp_if_le_t (x := (σ 114 v2.toNatClampNeg)) (t := 25) zd_198_18 rfl c3]
          rw [zs_iconst (z := 0) zd_198_25 (by decide)]
          exact zt_M_races_26 (hk4 := ih) H
        · rw [if_neg c3] at H
          rw [zp_if_le_f (x := (σ 114 v2.toNatClampNeg)) (t := 25) zd_198_18 rfl c3]
          rw [zs_iconst (z := 1) zd_198_21 (by decide)]
          rw [zs_goto (t := 26) zd_198_22 rfl]
          exact zt_M_races_26 (hk4 := ih) H
      · rw [if_neg c2] at H
        cases H
set_option maxRecDepth 20000 in
theorem zt_M_races {a b L N : Nat} {σ : zS} {τ : zT} {r : Int32} (H : zf_M_races N σ = some r) : zx_go 0 198 0 [some (.ref 82), none, none] [] ((119, a, b), zx_pk (zK L) 119, σ, τ, zR) = some (some (.int r), ((119, a, b), zx_pk (zK L) 119, σ, τ, zR)) := by
  unfold zf_M_races at H
  rw [zs_iconst (z := 0) zd_198_0 (by decide)]
  rw [zs_istore_n (x := 0) (ls' := [some (.ref 82), some (.int 0), none]) zd_198_1 (Nat.le_of_ble_eq_true rfl) rfl]
  rw [zs_iconst (z := 0) zd_198_2 (by decide)]
  rw [zs_istore_n (x := 0) (ls' := [some (.ref 82), some (.int 0), some (.int 0)]) zd_198_3 (Nat.le_of_ble_eq_true rfl) rfl]
  exact zt_M_races_4  H
set_option maxRecDepth 20000 in
theorem zt_M_found {a b L N : Nat} {σ : zS} {τ : zT} {x1 : Int32} {r : Int32 × zS} (H : zf_M_found N σ x1 = some r) : zx_go 3 195 0 [some (.ref 82), some (.int x1)] [] ((119, a, b), zx_pk (zK L) 119, σ, τ, zR) = some (some (.int r.1), ((119, a, b), zx_pk (zK L) 119, r.2, τ, zR)) := by
  unfold zf_M_found at H
  rw [zs_aload_n (ls := [some (.ref 82), some (.int x1)]) zd_195_0 rfl]
  rw [zs_iconst (z := 0) zd_195_1 (by decide)]
  rw [zs_putI (n := 119) (K := zx_pk (zK L) 119) (c := 12) (k := 0) (q := 82) (x := 0) zd_195_2 rfl rfl (by decide +kernel) rfl (by decide)]
  rw [zs_aload_n (ls := [some (.ref 82), some (.int x1)]) zd_195_5 rfl]
  rw [zp_getZ (n := 119) (K := zx_pk (zK L) 119) (σ := (zx_up σ 82 0 0)) (c := 12) (k := 53) (q := 82) (v := (σ 82 53)) zd_195_6 rfl rfl rfl (by decide) (show ((zx_up σ 82 0 0) : zS) 82 53 = (σ 82 53) from ((zx_up_nj (by decide)).trans rfl))]
  by_cases c1 : ¬ (σ 82 53) = 0
  · rw [if_pos c1] at H
    rw [zp_if_ne_t (x := (σ 82 53)) (t := 15) zd_195_9 rfl c1]
    rw [zs_iload_n (ls := [some (.ref 82), some (.int x1)]) zd_195_15 rfl]
    by_cases c2 : x1 = 0
    · rw [if_pos c2] at H
      rw [zs_table (x := x1) (off := 36) (t := 52) zd_195_16 (by rw [c2]; decide) rfl]
      rw [zs_aload_n (ls := [some (.ref 82), some (.int x1)]) zd_195_52 rfl]
      rw [zs_iconst (z := 2) zd_195_53 (by decide)]
      obtain ⟨r10, hr10, H⟩ := Option.bind_eq_some_iff.mp H
      rw [zp_callVi (x := r10) (st := [.int 2, .ref 82]) (as := [.ref 82, .int 2]) (rest := []) (e := 2) zd_195_54 rfl (by decide +kernel) (by decide) rfl rfl (Nat.le_of_ble_eq_true rfl) (zx_rcb_ok rfl (show 82 < 119 by decide)) (Nat.le_of_ble_eq_true rfl) rfl (by decide) (zt_M_countOf hr10)]
      have H := Option.some.inj H
      subst H
      exact zs_ireturn zd_195_57 rfl
    · rw [if_neg c2] at H
      by_cases c3 : x1 = 1
      · rw [if_pos c3] at H
        rw [zs_table (x := x1) (off := 42) (t := 58) zd_195_16 (by rw [c3]; decide) rfl]
        rw [zs_aload_n (ls := [some (.ref 82), some (.int x1)]) zd_195_58 rfl]
        rw [zs_iconst (z := 1) zd_195_59 (by decide)]
        obtain ⟨r9, hr9, H⟩ := Option.bind_eq_some_iff.mp H
        rw [zp_callVi (x := r9) (st := [.int 1, .ref 82]) (as := [.ref 82, .int 1]) (rest := []) (e := 2) zd_195_60 rfl (by decide +kernel) (by decide) rfl rfl (Nat.le_of_ble_eq_true rfl) (zx_rcb_ok rfl (show 82 < 119 by decide)) (Nat.le_of_ble_eq_true rfl) rfl (by decide) (zt_M_countOf hr9)]
        have H := Option.some.inj H
        subst H
        exact zs_ireturn zd_195_63 rfl
      · rw [if_neg c3] at H
        by_cases c4 : x1 = 2
        · rw [if_pos c4] at H
          rw [zs_table (x := x1) (off := 48) (t := 64) zd_195_16 (by rw [c4]; decide) rfl]
          rw [zs_aload_n (ls := [some (.ref 82), some (.int x1)]) zd_195_64 rfl]
          obtain ⟨r8, hr8, H⟩ := Option.bind_eq_some_iff.mp H
          rw [zp_callVi (x := r8) (st := [.ref 82]) (as := [.ref 82]) (rest := []) (e := 0) zd_195_65 rfl (by decide +kernel) (by decide) rfl rfl (Nat.le_of_ble_eq_true rfl) (zx_rcb_ok rfl (show 82 < 119 by decide)) (Nat.le_of_ble_eq_true rfl) rfl (by decide) (zt_M_races hr8)]
          have H := Option.some.inj H
          subst H
          exact zs_ireturn zd_195_68 rfl
        · rw [if_neg c4] at H
          by_cases c5 : x1 = 3
          · rw [if_pos c5] at H
            rw [zs_table (x := x1) (off := 53) (t := 69) zd_195_16 (by rw [c5]; decide) rfl]
            rw [zs_aload_n (ls := [some (.ref 82), some (.int x1)]) zd_195_69 rfl]
            rw [zp_getI (n := 119) (K := zx_pk (zK L) 119) (σ := (zx_up σ 82 0 0)) (c := 12) (k := 60) (q := 82) (v := (σ 82 60)) zd_195_70 rfl rfl rfl (by decide) (show ((zx_up σ 82 0 0) : zS) 82 60 = (σ 82 60) from ((zx_up_nj (by decide)).trans rfl))]
            have H := Option.some.inj H
            subst H
            exact zs_ireturn zd_195_73 rfl
          · rw [if_neg c5] at H
            by_cases c6 : x1 = 4
            · rw [if_pos c6] at H
              rw [zs_table (x := x1) (off := 58) (t := 74) zd_195_16 (by rw [c6]; decide) rfl]
              rw [zs_aload_n (ls := [some (.ref 82), some (.int x1)]) zd_195_74 rfl]
              rw [zs_iconst (z := 4) zd_195_75 (by decide)]
              obtain ⟨r7, hr7, H⟩ := Option.bind_eq_some_iff.mp H
              rw [zp_callVi (x := r7) (st := [.int 4, .ref 82]) (as := [.ref 82, .int 4]) (rest := []) (e := 2) zd_195_76 rfl (by decide +kernel) (by decide) rfl rfl (Nat.le_of_ble_eq_true rfl) (zx_rcb_ok rfl (show 82 < 119 by decide)) (Nat.le_of_ble_eq_true rfl) rfl (by decide) (zt_M_countOf hr7)]
              have H := Option.some.inj H
              subst H
              exact zs_ireturn zd_195_79 rfl
            · rw [if_neg c6] at H
              rw [zs_table (x := x1) (off := 64) (t := 80) zd_195_16 (if_pos (by have e : ∀ z : Int32, ¬ x1 = z → ¬ (x1 : Int32).toInt = z.toInt := fun z h q => h (Int32.toInt_inj.mp q); have q0 := e 0 c2; have q1 := e 1 c3; have q2 := e 2 c4; have q3 := e 3 c5; have q4 := e 4 c6; simp only [show (0 : Int32).toInt = 0 from rfl, show (1 : Int32).toInt = 1 from rfl, show (2 : Int32).toInt = 2 from rfl, show (3 : Int32).toInt = 3 from rfl, show (4 : Int32).toInt = 4 from rfl] at q0 q1 q2 q3 q4; omega)) rfl]
              rw [zs_bipush (z := (-102)) zd_195_80 (by decide)]
              have H := Option.some.inj H
              subst H
              exact zs_ireturn zd_195_82 (by decide +kernel)
  · rw [if_neg c1] at H
    rw [zp_if_ne_f (x := (σ 82 53)) (t := 15) zd_195_9 rfl c1]
    rw [zs_bipush (z := (-101)) zd_195_12 (by decide)]
    have H := Option.some.inj H
    subst H
    exact zs_ireturn zd_195_14 (by decide +kernel)
set_option maxRecDepth 20000 in
theorem zt_Numbers_get_c1_21 {a b L : Nat} {σ : zS} {τ : zT} {o0 : Option Value} {o1 : Option Value} {r : Int32} (H : zb_Numbers_get_c1_21 σ = some r) : zx_go 0 172 21 [o0, o1] [] ((119, a, b), zx_pk (zK L) 119, σ, τ, zR) = some (some (.int r), ((119, a, b), zx_pk (zK L) 119, σ, τ, zR)) := by
  unfold zb_Numbers_get_c1_21 at H
  rw [zs_iconst (z := (-1)) zd_172_21 (by decide)]
  rw [zs_goto (t := 31) zd_172_22 rfl]
  have H := Option.some.inj H
  subst H
  exact zs_ireturn zd_172_31 (by decide +kernel)
set_option maxRecDepth 20000 in
theorem zt_Numbers_get_c1 {a b L : Nat} {σ : zS} {τ : zT} {x1 : Int32} {r : Int32} (H : zf_Numbers_get_c1 σ x1 = some r) : zx_go 0 172 0 [some (.ref 51), some (.int x1)] [] ((119, a, b), zx_pk (zK L) 119, σ, τ, zR) = some (some (.int r), ((119, a, b), zx_pk (zK L) 119, σ, τ, zR)) := by
  unfold zf_Numbers_get_c1 at H
  rw [zs_iload_n (ls := [some (.ref 51), some (.int x1)]) zd_172_0 rfl]
  by_cases c1 : x1 < 0
  · rw [if_pos c1] at H
    rw [zp_if_lt_t (x := x1) (t := 21) zd_172_1 rfl c1]
    exact zt_Numbers_get_c1_21  H
  · rw [if_neg c1] at H
    rw [zp_if_lt_f (x := x1) (t := 21) zd_172_1 rfl c1]
    rw [zs_iload_n (ls := [some (.ref 51), some (.int x1)]) zd_172_4 rfl]
    rw [zs_aload_n (ls := [some (.ref 51), some (.int x1)]) zd_172_5 rfl]
    rw [zp_getI (n := 119) (K := zx_pk (zK L) 119) (σ := σ) (c := 4) (k := 1) (q := 51) (v := (σ 51 1)) zd_172_6 rfl rfl rfl (by decide) rfl]
    by_cases c2 : (σ 51 1) ≤ x1
    · rw [if_pos c2] at H
      rw [zp_icmp_ge_t (x := x1) (y := (σ 51 1)) (t := 21) zd_172_9 rfl c2]
      exact zt_Numbers_get_c1_21  H
    · rw [if_neg c2] at H
      rw [zp_icmp_ge_f (x := x1) (y := (σ 51 1)) (t := 21) zd_172_9 rfl c2]
      rw [zs_iload_n (ls := [some (.ref 51), some (.int x1)]) zd_172_12 rfl]
      rw [zs_aload_n (ls := [some (.ref 51), some (.int x1)]) zd_172_13 rfl]
      rw [zs_getR (n := 119) (K := zx_pk (zK L) 119) (ρ := zR) (c := 4) (k := 0) (q := 51) (p := 52) zd_172_14 rfl rfl rfl (by decide) rfl]
      rw [zs_arraylength (n := 119) (K := zx_pk (zK L) 119) (q := 52) (m := 4000) (z := 4000) zd_172_17 rfl (by decide) (by decide)]
      by_cases c3 : x1 < 4000
      · rw [if_pos c3] at H
        rw [zp_icmp_lt_t (x := x1) (y := 4000) (t := 25) zd_172_18 rfl c3]
        rw [zs_aload_n (ls := [some (.ref 51), some (.int x1)]) zd_172_25 rfl]
        rw [zs_getR (n := 119) (K := zx_pk (zK L) 119) (ρ := zR) (c := 4) (k := 0) (q := 51) (p := 52) zd_172_26 rfl rfl rfl (by decide) rfl]
        rw [zs_iload_n (ls := [some (.ref 51), some (.int x1)]) zd_172_29 rfl]
        by_cases c4 : 0 ≤ x1 ∧ x1 < 4000
        · rw [if_pos c4] at H
          rw [zp_iaload (n := 119) (K := zx_pk (zK L) 119) (σ := σ) (q := 52) (m := 4000) (i := x1) (k := x1.toNatClampNeg) (v := (σ 52 x1.toNatClampNeg)) zd_172_30 rfl (by decide) (zJ_in c4 rfl) rfl rfl]
          have H := Option.some.inj H
          subst H
          exact zs_ireturn zd_172_31 rfl
        · rw [if_neg c4] at H
          cases H
      · rw [if_neg c3] at H
        rw [zp_icmp_lt_f (x := x1) (y := 4000) (t := 25) zd_172_18 rfl c3]
        exact zt_Numbers_get_c1_21  H
set_option maxRecDepth 20000 in
theorem zt_Numbers_get_c2_21 {a b L : Nat} {σ : zS} {τ : zT} {o0 : Option Value} {o1 : Option Value} {r : Int32} (H : zb_Numbers_get_c2_21 σ = some r) : zx_go 0 172 21 [o0, o1] [] ((119, a, b), zx_pk (zK L) 119, σ, τ, zR) = some (some (.int r), ((119, a, b), zx_pk (zK L) 119, σ, τ, zR)) := by
  unfold zb_Numbers_get_c2_21 at H
  rw [zs_iconst (z := (-1)) zd_172_21 (by decide)]
  rw [zs_goto (t := 31) zd_172_22 rfl]
  have H := Option.some.inj H
  subst H
  exact zs_ireturn zd_172_31 (by decide +kernel)
set_option maxRecDepth 20000 in
theorem zt_Numbers_get_c2 {a b L : Nat} {σ : zS} {τ : zT} {x1 : Int32} {r : Int32} (H : zf_Numbers_get_c2 σ x1 = some r) : zx_go 0 172 0 [some (.ref 61), some (.int x1)] [] ((119, a, b), zx_pk (zK L) 119, σ, τ, zR) = some (some (.int r), ((119, a, b), zx_pk (zK L) 119, σ, τ, zR)) := by
  unfold zf_Numbers_get_c2 at H
  rw [zs_iload_n (ls := [some (.ref 61), some (.int x1)]) zd_172_0 rfl]
  by_cases c1 : x1 < 0
  · rw [if_pos c1] at H
    rw [zp_if_lt_t (x := x1) (t := 21) zd_172_1 rfl c1]
    exact zt_Numbers_get_c2_21  H
  · rw [if_neg c1] at H
    rw [zp_if_lt_f (x := x1) (t := 21) zd_172_1 rfl c1]
    rw [zs_iload_n (ls := [some (.ref 61), some (.int x1)]) zd_172_4 rfl]
    rw [zs_aload_n (ls := [some (.ref 61), some (.int x1)]) zd_172_5 rfl]
    rw [zp_getI (n := 119) (K := zx_pk (zK L) 119) (σ := σ) (c := 4) (k := 1) (q := 61) (v := (σ 61 1)) zd_172_6 rfl rfl rfl (by decide) rfl]
    by_cases c2 : (σ 61 1) ≤ x1
    · rw [if_pos c2] at H
      rw [zp_icmp_ge_t (x := x1) (y := (σ 61 1)) (t := 21) zd_172_9 rfl c2]
      exact zt_Numbers_get_c2_21  H
    · rw [if_neg c2] at H
      rw [zp_icmp_ge_f (x := x1) (y := (σ 61 1)) (t := 21) zd_172_9 rfl c2]
      rw [zs_iload_n (ls := [some (.ref 61), some (.int x1)]) zd_172_12 rfl]
      rw [zs_aload_n (ls := [some (.ref 61), some (.int x1)]) zd_172_13 rfl]
      rw [zs_getR (n := 119) (K := zx_pk (zK L) 119) (ρ := zR) (c := 4) (k := 0) (q := 61) (p := 62) zd_172_14 rfl rfl rfl (by decide) rfl]
      rw [zs_arraylength (n := 119) (K := zx_pk (zK L) 119) (q := 62) (m := 4000) (z := 4000) zd_172_17 rfl (by decide) (by decide)]
      by_cases c3 : x1 < 4000
      · rw [if_pos c3] at H
        rw [zp_icmp_lt_t (x := x1) (y := 4000) (t := 25) zd_172_18 rfl c3]
        rw [zs_aload_n (ls := [some (.ref 61), some (.int x1)]) zd_172_25 rfl]
        rw [zs_getR (n := 119) (K := zx_pk (zK L) 119) (ρ := zR) (c := 4) (k := 0) (q := 61) (p := 62) zd_172_26 rfl rfl rfl (by decide) rfl]
        rw [zs_iload_n (ls := [some (.ref 61), some (.int x1)]) zd_172_29 rfl]
        by_cases c4 : 0 ≤ x1 ∧ x1 < 4000
        · rw [if_pos c4] at H
          rw [zp_iaload (n := 119) (K := zx_pk (zK L) 119) (σ := σ) (q := 62) (m := 4000) (i := x1) (k := x1.toNatClampNeg) (v := (σ 62 x1.toNatClampNeg)) zd_172_30 rfl (by decide) (zJ_in c4 rfl) rfl rfl]
          have H := Option.some.inj H
          subst H
          exact zs_ireturn zd_172_31 rfl
        · rw [if_neg c4] at H
          cases H
      · rw [if_neg c3] at H
        rw [zp_icmp_lt_f (x := x1) (y := 4000) (t := 25) zd_172_18 rfl c3]
        exact zt_Numbers_get_c2_21  H
set_option maxRecDepth 20000 in
theorem zt_Numbers_get_c3_21 {a b L : Nat} {σ : zS} {τ : zT} {o0 : Option Value} {o1 : Option Value} {r : Int32} (H : zb_Numbers_get_c3_21 σ = some r) : zx_go 0 172 21 [o0, o1] [] ((119, a, b), zx_pk (zK L) 119, σ, τ, zR) = some (some (.int r), ((119, a, b), zx_pk (zK L) 119, σ, τ, zR)) := by
  unfold zb_Numbers_get_c3_21 at H
  rw [zs_iconst (z := (-1)) zd_172_21 (by decide)]
  rw [zs_goto (t := 31) zd_172_22 rfl]
  have H := Option.some.inj H
  subst H
  exact zs_ireturn zd_172_31 (by decide +kernel)
set_option maxRecDepth 20000 in
theorem zt_Numbers_get_c3 {a b L : Nat} {σ : zS} {τ : zT} {x1 : Int32} {r : Int32} (H : zf_Numbers_get_c3 σ x1 = some r) : zx_go 0 172 0 [some (.ref 47), some (.int x1)] [] ((119, a, b), zx_pk (zK L) 119, σ, τ, zR) = some (some (.int r), ((119, a, b), zx_pk (zK L) 119, σ, τ, zR)) := by
  unfold zf_Numbers_get_c3 at H
  rw [zs_iload_n (ls := [some (.ref 47), some (.int x1)]) zd_172_0 rfl]
  by_cases c1 : x1 < 0
  · rw [if_pos c1] at H
    rw [zp_if_lt_t (x := x1) (t := 21) zd_172_1 rfl c1]
    exact zt_Numbers_get_c3_21  H
  · rw [if_neg c1] at H
    rw [zp_if_lt_f (x := x1) (t := 21) zd_172_1 rfl c1]
    rw [zs_iload_n (ls := [some (.ref 47), some (.int x1)]) zd_172_4 rfl]
    rw [zs_aload_n (ls := [some (.ref 47), some (.int x1)]) zd_172_5 rfl]
    rw [zp_getI (n := 119) (K := zx_pk (zK L) 119) (σ := σ) (c := 4) (k := 1) (q := 47) (v := (σ 47 1)) zd_172_6 rfl rfl rfl (by decide) rfl]
    by_cases c2 : (σ 47 1) ≤ x1
    · rw [if_pos c2] at H
      rw [zp_icmp_ge_t (x := x1) (y := (σ 47 1)) (t := 21) zd_172_9 rfl c2]
      exact zt_Numbers_get_c3_21  H
    · rw [if_neg c2] at H
      rw [zp_icmp_ge_f (x := x1) (y := (σ 47 1)) (t := 21) zd_172_9 rfl c2]
      rw [zs_iload_n (ls := [some (.ref 47), some (.int x1)]) zd_172_12 rfl]
      rw [zs_aload_n (ls := [some (.ref 47), some (.int x1)]) zd_172_13 rfl]
      rw [zs_getR (n := 119) (K := zx_pk (zK L) 119) (ρ := zR) (c := 4) (k := 0) (q := 47) (p := 48) zd_172_14 rfl rfl rfl (by decide) rfl]
      rw [zs_arraylength (n := 119) (K := zx_pk (zK L) 119) (q := 48) (m := 4000) (z := 4000) zd_172_17 rfl (by decide) (by decide)]
      by_cases c3 : x1 < 4000
      · rw [if_pos c3] at H
        rw [zp_icmp_lt_t (x := x1) (y := 4000) (t := 25) zd_172_18 rfl c3]
        rw [zs_aload_n (ls := [some (.ref 47), some (.int x1)]) zd_172_25 rfl]
        rw [zs_getR (n := 119) (K := zx_pk (zK L) 119) (ρ := zR) (c := 4) (k := 0) (q := 47) (p := 48) zd_172_26 rfl rfl rfl (by decide) rfl]
        rw [zs_iload_n (ls := [some (.ref 47), some (.int x1)]) zd_172_29 rfl]
        by_cases c4 : 0 ≤ x1 ∧ x1 < 4000
        · rw [if_pos c4] at H
          rw [zp_iaload (n := 119) (K := zx_pk (zK L) 119) (σ := σ) (q := 48) (m := 4000) (i := x1) (k := x1.toNatClampNeg) (v := (σ 48 x1.toNatClampNeg)) zd_172_30 rfl (by decide) (zJ_in c4 rfl) rfl rfl]
          have H := Option.some.inj H
          subst H
          exact zs_ireturn zd_172_31 rfl
        · rw [if_neg c4] at H
          cases H
      · rw [if_neg c3] at H
        rw [zp_icmp_lt_f (x := x1) (y := 4000) (t := 25) zd_172_18 rfl c3]
        exact zt_Numbers_get_c3_21  H
set_option maxRecDepth 20000 in
theorem zt_Numbers_get_c4_21 {a b L : Nat} {σ : zS} {τ : zT} {o0 : Option Value} {o1 : Option Value} {r : Int32} (H : zb_Numbers_get_c4_21 σ = some r) : zx_go 0 172 21 [o0, o1] [] ((119, a, b), zx_pk (zK L) 119, σ, τ, zR) = some (some (.int r), ((119, a, b), zx_pk (zK L) 119, σ, τ, zR)) := by
  unfold zb_Numbers_get_c4_21 at H
  rw [zs_iconst (z := (-1)) zd_172_21 (by decide)]
  rw [zs_goto (t := 31) zd_172_22 rfl]
  have H := Option.some.inj H
  subst H
  exact zs_ireturn zd_172_31 (by decide +kernel)
set_option maxRecDepth 20000 in
theorem zt_Numbers_get_c4 {a b L : Nat} {σ : zS} {τ : zT} {x1 : Int32} {r : Int32} (H : zf_Numbers_get_c4 σ x1 = some r) : zx_go 0 172 0 [some (.ref 49), some (.int x1)] [] ((119, a, b), zx_pk (zK L) 119, σ, τ, zR) = some (some (.int r), ((119, a, b), zx_pk (zK L) 119, σ, τ, zR)) := by
  unfold zf_Numbers_get_c4 at H
  rw [zs_iload_n (ls := [some (.ref 49), some (.int x1)]) zd_172_0 rfl]
  by_cases c1 : x1 < 0
  · rw [if_pos c1] at H
    rw [zp_if_lt_t (x := x1) (t := 21) zd_172_1 rfl c1]
    exact zt_Numbers_get_c4_21  H
  · rw [if_neg c1] at H
    rw [zp_if_lt_f (x := x1) (t := 21) zd_172_1 rfl c1]
    rw [zs_iload_n (ls := [some (.ref 49), some (.int x1)]) zd_172_4 rfl]
    rw [zs_aload_n (ls := [some (.ref 49), some (.int x1)]) zd_172_5 rfl]
    rw [zp_getI (n := 119) (K := zx_pk (zK L) 119) (σ := σ) (c := 4) (k := 1) (q := 49) (v := (σ 49 1)) zd_172_6 rfl rfl rfl (by decide) rfl]
    by_cases c2 : (σ 49 1) ≤ x1
    · rw [if_pos c2] at H
      rw [zp_icmp_ge_t (x := x1) (y := (σ 49 1)) (t := 21) zd_172_9 rfl c2]
      exact zt_Numbers_get_c4_21  H
    · rw [if_neg c2] at H
      rw [zp_icmp_ge_f (x := x1) (y := (σ 49 1)) (t := 21) zd_172_9 rfl c2]
      rw [zs_iload_n (ls := [some (.ref 49), some (.int x1)]) zd_172_12 rfl]
      rw [zs_aload_n (ls := [some (.ref 49), some (.int x1)]) zd_172_13 rfl]
      rw [zs_getR (n := 119) (K := zx_pk (zK L) 119) (ρ := zR) (c := 4) (k := 0) (q := 49) (p := 50) zd_172_14 rfl rfl rfl (by decide) rfl]
      rw [zs_arraylength (n := 119) (K := zx_pk (zK L) 119) (q := 50) (m := 4000) (z := 4000) zd_172_17 rfl (by decide) (by decide)]
      by_cases c3 : x1 < 4000
      · rw [if_pos c3] at H
        rw [zp_icmp_lt_t (x := x1) (y := 4000) (t := 25) zd_172_18 rfl c3]
        rw [zs_aload_n (ls := [some (.ref 49), some (.int x1)]) zd_172_25 rfl]
        rw [zs_getR (n := 119) (K := zx_pk (zK L) 119) (ρ := zR) (c := 4) (k := 0) (q := 49) (p := 50) zd_172_26 rfl rfl rfl (by decide) rfl]
        rw [zs_iload_n (ls := [some (.ref 49), some (.int x1)]) zd_172_29 rfl]
        by_cases c4 : 0 ≤ x1 ∧ x1 < 4000
        · rw [if_pos c4] at H
          rw [zp_iaload (n := 119) (K := zx_pk (zK L) 119) (σ := σ) (q := 50) (m := 4000) (i := x1) (k := x1.toNatClampNeg) (v := (σ 50 x1.toNatClampNeg)) zd_172_30 rfl (by decide) (zJ_in c4 rfl) rfl rfl]
          have H := Option.some.inj H
          subst H
          exact zs_ireturn zd_172_31 rfl
        · rw [if_neg c4] at H
          cases H
      · rw [if_neg c3] at H
        rw [zp_icmp_lt_f (x := x1) (y := 4000) (t := 25) zd_172_18 rfl c3]
        exact zt_Numbers_get_c4_21  H
set_option maxRecDepth 20000 in
theorem zt_Numbers_get_c5_21 {a b L : Nat} {σ : zS} {τ : zT} {o0 : Option Value} {o1 : Option Value} {r : Int32} (H : zb_Numbers_get_c5_21 σ = some r) : zx_go 0 172 21 [o0, o1] [] ((119, a, b), zx_pk (zK L) 119, σ, τ, zR) = some (some (.int r), ((119, a, b), zx_pk (zK L) 119, σ, τ, zR)) := by
  unfold zb_Numbers_get_c5_21 at H
  rw [zs_iconst (z := (-1)) zd_172_21 (by decide)]
  rw [zs_goto (t := 31) zd_172_22 rfl]
  have H := Option.some.inj H
  subst H
  exact zs_ireturn zd_172_31 (by decide +kernel)
set_option maxRecDepth 20000 in
theorem zt_Numbers_get_c5 {a b L : Nat} {σ : zS} {τ : zT} {x1 : Int32} {r : Int32} (H : zf_Numbers_get_c5 σ x1 = some r) : zx_go 0 172 0 [some (.ref 55), some (.int x1)] [] ((119, a, b), zx_pk (zK L) 119, σ, τ, zR) = some (some (.int r), ((119, a, b), zx_pk (zK L) 119, σ, τ, zR)) := by
  unfold zf_Numbers_get_c5 at H
  rw [zs_iload_n (ls := [some (.ref 55), some (.int x1)]) zd_172_0 rfl]
  by_cases c1 : x1 < 0
  · rw [if_pos c1] at H
    rw [zp_if_lt_t (x := x1) (t := 21) zd_172_1 rfl c1]
    exact zt_Numbers_get_c5_21  H
  · rw [if_neg c1] at H
    rw [zp_if_lt_f (x := x1) (t := 21) zd_172_1 rfl c1]
    rw [zs_iload_n (ls := [some (.ref 55), some (.int x1)]) zd_172_4 rfl]
    rw [zs_aload_n (ls := [some (.ref 55), some (.int x1)]) zd_172_5 rfl]
    rw [zp_getI (n := 119) (K := zx_pk (zK L) 119) (σ := σ) (c := 4) (k := 1) (q := 55) (v := (σ 55 1)) zd_172_6 rfl rfl rfl (by decide) rfl]
    by_cases c2 : (σ 55 1) ≤ x1
    · rw [if_pos c2] at H
      rw [zp_icmp_ge_t (x := x1) (y := (σ 55 1)) (t := 21) zd_172_9 rfl c2]
      exact zt_Numbers_get_c5_21  H
    · rw [if_neg c2] at H
      rw [zp_icmp_ge_f (x := x1) (y := (σ 55 1)) (t := 21) zd_172_9 rfl c2]
      rw [zs_iload_n (ls := [some (.ref 55), some (.int x1)]) zd_172_12 rfl]
      rw [zs_aload_n (ls := [some (.ref 55), some (.int x1)]) zd_172_13 rfl]
      rw [zs_getR (n := 119) (K := zx_pk (zK L) 119) (ρ := zR) (c := 4) (k := 0) (q := 55) (p := 56) zd_172_14 rfl rfl rfl (by decide) rfl]
      rw [zs_arraylength (n := 119) (K := zx_pk (zK L) 119) (q := 56) (m := 3456) (z := 3456) zd_172_17 rfl (by decide) (by decide)]
      by_cases c3 : x1 < 3456
      · rw [if_pos c3] at H
        rw [zp_icmp_lt_t (x := x1) (y := 3456) (t := 25) zd_172_18 rfl c3]
        rw [zs_aload_n (ls := [some (.ref 55), some (.int x1)]) zd_172_25 rfl]
        rw [zs_getR (n := 119) (K := zx_pk (zK L) 119) (ρ := zR) (c := 4) (k := 0) (q := 55) (p := 56) zd_172_26 rfl rfl rfl (by decide) rfl]
        rw [zs_iload_n (ls := [some (.ref 55), some (.int x1)]) zd_172_29 rfl]
        by_cases c4 : 0 ≤ x1 ∧ x1 < 3456
        · rw [if_pos c4] at H
          rw [zp_iaload (n := 119) (K := zx_pk (zK L) 119) (σ := σ) (q := 56) (m := 3456) (i := x1) (k := x1.toNatClampNeg) (v := (σ 56 x1.toNatClampNeg)) zd_172_30 rfl (by decide) (zJ_in c4 rfl) rfl rfl]
          have H := Option.some.inj H
          subst H
          exact zs_ireturn zd_172_31 rfl
        · rw [if_neg c4] at H
          cases H
      · rw [if_neg c3] at H
        rw [zp_icmp_lt_f (x := x1) (y := 3456) (t := 25) zd_172_18 rfl c3]
        exact zt_Numbers_get_c5_21  H
set_option maxRecDepth 20000 in
theorem zt_X_shownState {a b L : Nat} {σ : zS} {τ : zT} {x1 : Int32} {x2 : Int32} {r : Int32} (H : zf_X_shownState σ x1 x2 = some r) : zx_go 1 200 0 [some (.ref 2), some (.int x1), some (.int x2)] [] ((119, a, b), zx_pk (zK L) 119, σ, τ, zR) = some (some (.int r), ((119, a, b), zx_pk (zK L) 119, σ, τ, zR)) := by
  unfold zf_X_shownState at H
  rw [zs_iload_n (ls := [some (.ref 2), some (.int x1), some (.int x2)]) zd_200_0 rfl]
  by_cases c1 : x1 = 0
  · rw [if_pos c1] at H
    rw [zs_table (x := x1) (off := 35) (t := 36) zd_200_1 (by rw [c1]; decide) rfl]
    rw [zs_aload_n (ls := [some (.ref 2), some (.int x1), some (.int x2)]) zd_200_36 rfl]
    rw [zs_getR (n := 119) (K := zx_pk (zK L) 119) (ρ := zR) (c := 11) (k := 5) (q := 2) (p := 46) zd_200_37 rfl rfl rfl (by decide) rfl]
    rw [zs_getR (n := 119) (K := zx_pk (zK L) 119) (ρ := zR) (c := 0) (k := 6) (q := 46) (p := 55) zd_200_40 rfl rfl rfl (by decide) rfl]
    rw [zs_iload_n (ls := [some (.ref 2), some (.int x1), some (.int x2)]) zd_200_43 rfl]
    obtain ⟨r10, hr10, H⟩ := Option.bind_eq_some_iff.mp H
    rw [zp_callVi (x := r10) (st := [.int x2, .ref 55]) (as := [.ref 55, .int x2]) (rest := []) (e := 0) zd_200_44 rfl (by decide +kernel) (by decide) rfl rfl (Nat.le_of_ble_eq_true rfl) (zx_rcb_ok rfl (show 55 < 119 by decide)) (Nat.le_of_ble_eq_true rfl) rfl (by decide) (zt_Numbers_get_c5 hr10)]
    have H := Option.some.inj H
    subst H
    exact zs_ireturn zd_200_47 rfl
  · rw [if_neg c1] at H
    by_cases c2 : x1 = 1
    · rw [if_pos c2] at H
      rw [zs_table (x := x1) (off := 47) (t := 48) zd_200_1 (by rw [c2]; decide) rfl]
      rw [zs_aload_n (ls := [some (.ref 2), some (.int x1), some (.int x2)]) zd_200_48 rfl]
      rw [zs_getR (n := 119) (K := zx_pk (zK L) 119) (ρ := zR) (c := 11) (k := 5) (q := 2) (p := 46) zd_200_49 rfl rfl rfl (by decide) rfl]
      rw [zs_getR (n := 119) (K := zx_pk (zK L) 119) (ρ := zR) (c := 0) (k := 3) (q := 46) (p := 49) zd_200_52 rfl rfl rfl (by decide) rfl]
      rw [zs_iload_n (ls := [some (.ref 2), some (.int x1), some (.int x2)]) zd_200_55 rfl]
      obtain ⟨r9, hr9, H⟩ := Option.bind_eq_some_iff.mp H
      rw [zp_callVi (x := r9) (st := [.int x2, .ref 49]) (as := [.ref 49, .int x2]) (rest := []) (e := 0) zd_200_56 rfl (by decide +kernel) (by decide) rfl rfl (Nat.le_of_ble_eq_true rfl) (zx_rcb_ok rfl (show 49 < 119 by decide)) (Nat.le_of_ble_eq_true rfl) rfl (by decide) (zt_Numbers_get_c4 hr9)]
      have H := Option.some.inj H
      subst H
      exact zs_ireturn zd_200_59 rfl
    · rw [if_neg c2] at H
      by_cases c3 : x1 = 2
      · rw [if_pos c3] at H
        rw [zs_table (x := x1) (off := 59) (t := 60) zd_200_1 (by rw [c3]; decide) rfl]
        rw [zs_aload_n (ls := [some (.ref 2), some (.int x1), some (.int x2)]) zd_200_60 rfl]
        rw [zs_getR (n := 119) (K := zx_pk (zK L) 119) (ρ := zR) (c := 11) (k := 5) (q := 2) (p := 46) zd_200_61 rfl rfl rfl (by decide) rfl]
        rw [zs_getR (n := 119) (K := zx_pk (zK L) 119) (ρ := zR) (c := 0) (k := 2) (q := 46) (p := 47) zd_200_64 rfl rfl rfl (by decide) rfl]
        rw [zs_iload_n (ls := [some (.ref 2), some (.int x1), some (.int x2)]) zd_200_67 rfl]
        obtain ⟨r8, hr8, H⟩ := Option.bind_eq_some_iff.mp H
        rw [zp_callVi (x := r8) (st := [.int x2, .ref 47]) (as := [.ref 47, .int x2]) (rest := []) (e := 0) zd_200_68 rfl (by decide +kernel) (by decide) rfl rfl (Nat.le_of_ble_eq_true rfl) (zx_rcb_ok rfl (show 47 < 119 by decide)) (Nat.le_of_ble_eq_true rfl) rfl (by decide) (zt_Numbers_get_c3 hr8)]
        have H := Option.some.inj H
        subst H
        exact zs_ireturn zd_200_71 rfl
      · rw [if_neg c3] at H
        by_cases c4 : x1 = 3
        · rw [if_pos c4] at H
          rw [zs_table (x := x1) (off := 71) (t := 72) zd_200_1 (by rw [c4]; decide) rfl]
          rw [zs_aload_n (ls := [some (.ref 2), some (.int x1), some (.int x2)]) zd_200_72 rfl]
          rw [zs_getR (n := 119) (K := zx_pk (zK L) 119) (ρ := zR) (c := 11) (k := 5) (q := 2) (p := 46) zd_200_73 rfl rfl rfl (by decide) rfl]
          rw [zs_getR (n := 119) (K := zx_pk (zK L) 119) (ρ := zR) (c := 0) (k := 7) (q := 46) (p := 58) zd_200_76 rfl rfl rfl (by decide) rfl]
          rw [zs_getR (n := 119) (K := zx_pk (zK L) 119) (ρ := zR) (c := 5) (k := 2) (q := 58) (p := 61) zd_200_79 rfl rfl rfl (by decide) rfl]
          rw [zs_iload_n (ls := [some (.ref 2), some (.int x1), some (.int x2)]) zd_200_82 rfl]
          obtain ⟨r7, hr7, H⟩ := Option.bind_eq_some_iff.mp H
          rw [zp_callVi (x := r7) (st := [.int x2, .ref 61]) (as := [.ref 61, .int x2]) (rest := []) (e := 0) zd_200_83 rfl (by decide +kernel) (by decide) rfl rfl (Nat.le_of_ble_eq_true rfl) (zx_rcb_ok rfl (show 61 < 119 by decide)) (Nat.le_of_ble_eq_true rfl) rfl (by decide) (zt_Numbers_get_c2 hr7)]
          have H := Option.some.inj H
          subst H
          exact zs_ireturn zd_200_86 rfl
        · rw [if_neg c4] at H
          by_cases c5 : x1 = 4
          · rw [if_pos c5] at H
            rw [zs_table (x := x1) (off := 86) (t := 87) zd_200_1 (by rw [c5]; decide) rfl]
            rw [zs_aload_n (ls := [some (.ref 2), some (.int x1), some (.int x2)]) zd_200_87 rfl]
            rw [zs_getR (n := 119) (K := zx_pk (zK L) 119) (ρ := zR) (c := 11) (k := 5) (q := 2) (p := 46) zd_200_88 rfl rfl rfl (by decide) rfl]
            rw [zs_getR (n := 119) (K := zx_pk (zK L) 119) (ρ := zR) (c := 0) (k := 4) (q := 46) (p := 51) zd_200_91 rfl rfl rfl (by decide) rfl]
            rw [zs_iload_n (ls := [some (.ref 2), some (.int x1), some (.int x2)]) zd_200_94 rfl]
            obtain ⟨r6, hr6, H⟩ := Option.bind_eq_some_iff.mp H
            rw [zp_callVi (x := r6) (st := [.int x2, .ref 51]) (as := [.ref 51, .int x2]) (rest := []) (e := 0) zd_200_95 rfl (by decide +kernel) (by decide) rfl rfl (Nat.le_of_ble_eq_true rfl) (zx_rcb_ok rfl (show 51 < 119 by decide)) (Nat.le_of_ble_eq_true rfl) rfl (by decide) (zt_Numbers_get_c1 hr6)]
            have H := Option.some.inj H
            subst H
            exact zs_ireturn zd_200_98 rfl
          · rw [if_neg c5] at H
            rw [zs_table (x := x1) (off := 98) (t := 99) zd_200_1 (if_pos (by have e : ∀ z : Int32, ¬ x1 = z → ¬ (x1 : Int32).toInt = z.toInt := fun z h q => h (Int32.toInt_inj.mp q); have q0 := e 0 c1; have q1 := e 1 c2; have q2 := e 2 c3; have q3 := e 3 c4; have q4 := e 4 c5; simp only [show (0 : Int32).toInt = 0 from rfl, show (1 : Int32).toInt = 1 from rfl, show (2 : Int32).toInt = 2 from rfl, show (3 : Int32).toInt = 3 from rfl, show (4 : Int32).toInt = 4 from rfl] at q0 q1 q2 q3 q4; omega)) rfl]
            rw [zs_iconst (z := (-1)) zd_200_99 (by decide)]
            have H := Option.some.inj H
            subst H
            exact zs_ireturn zd_200_100 (by decide +kernel)
set_option maxRecDepth 20000 in
theorem zt_Space_wayTo_90 {a b L N : Nat} {k51 : zS → Int32 → Int32 → Int32 → Option (Int32 × zS)} (hk51 : ∀ {σ : zS} {τ : zT} {v3 : Int32} {v4 : Int32} {v5 : Int32} {o1 : Option Value} {r : Int32 × zS}, k51 σ v3 v4 v5 = some r → zx_go 1 201 51 [some (.ref 41), o1, some (.ref 81), some (.int v3), some (.int v4), some (.int v5)] [] ((119, a, b), zx_pk (zK L) 119, σ, τ, zR) = some (some (.int r.1), ((119, a, b), zx_pk (zK L) 119, r.2, τ, zR))) {σ : zS} {τ : zT} {v3 : Int32} {v4 : Int32} {v5 : Int32} {o1 : Option Value} {r : Int32 × zS} (H : zb_Space_wayTo_90 k51 N σ v3 v4 v5 = some r) : zx_go 1 201 90 [some (.ref 41), o1, some (.ref 81), some (.int v3), some (.int v4), some (.int v5)] [] ((119, a, b), zx_pk (zK L) 119, σ, τ, zR) = some (some (.int r.1), ((119, a, b), zx_pk (zK L) 119, r.2, τ, zR)) := by
  unfold zb_Space_wayTo_90 at H
  rw [zs_iinc (ls := [some (.ref 41), o1, some (.ref 81), some (.int v3), some (.int v4), some (.int v5)]) (x := v4) (z := (v4 + (-1))) (ls' := [some (.ref 41), o1, some (.ref 81), some (.int v3), some (.int (v4 + (-1))), some (.int v5)]) zd_201_90 rfl rfl rfl]
  rw [zs_aload_n (ls := [some (.ref 41), o1, some (.ref 81), some (.int v3), some (.int (v4 + (-1))), some (.int v5)]) zd_201_93 rfl]
  rw [zs_getR (n := 119) (K := zx_pk (zK L) 119) (ρ := zR) (c := 8) (k := 3) (q := 41) (p := 43) zd_201_94 rfl rfl rfl (by decide) rfl]
  rw [zs_iload (ls := [some (.ref 41), o1, some (.ref 81), some (.int v3), some (.int (v4 + (-1))), some (.int v5)]) zd_201_97 rfl]
  by_cases c7 : 0 ≤ v5 ∧ v5 < 4000
  · rw [if_pos c7] at H
    rw [zp_iaload (n := 119) (K := zx_pk (zK L) 119) (σ := σ) (q := 43) (m := 4000) (i := v5) (k := v5.toNatClampNeg) (v := (σ 43 v5.toNatClampNeg)) zd_201_99 rfl (by decide) (zJ_in c7 rfl) rfl rfl]
    rw [zs_iconst (z := 4) zd_201_100 (by decide)]
    rw [zp_idiv (x := (σ 43 v5.toNatClampNeg)) (y := 4) (z := ((σ 43 v5.toNatClampNeg) / 4)) zd_201_101 (by decide) rfl]
    rw [zs_istore (x := ((σ 43 v5.toNatClampNeg) / 4)) (ls' := [some (.ref 41), o1, some (.ref 81), some (.int v3), some (.int (v4 + (-1))), some (.int ((σ 43 v5.toNatClampNeg) / 4))]) zd_201_102 (Nat.le_of_ble_eq_true rfl) rfl]
    rw [zs_goto (t := 51) zd_201_104 rfl]
    exact hk51 H
  · rw [if_neg c7] at H
    cases H
set_option maxRecDepth 20000 in
theorem zt_Space_wayTo_51 {a b L N : Nat} : ∀ {n : Nat} {σ : zS} {τ : zT} {v3 : Int32} {v4 : Int32} {v5 : Int32} {o1 : Option Value} {r : Int32 × zS}, zb_Space_wayTo_51 N n σ v3 v4 v5 = some r → zx_go 1 201 51 [some (.ref 41), o1, some (.ref 81), some (.int v3), some (.int v4), some (.int v5)] [] ((119, a, b), zx_pk (zK L) 119, σ, τ, zR) = some (some (.int r.1), ((119, a, b), zx_pk (zK L) 119, r.2, τ, zR)) := by
  intro n
  induction n with
  | zero =>
    intro _ _ _ _ _ _ _ H
    cases H
  | succ n ih =>
    intro σ τ v3 v4 v5 o1 r H
    rw [zb_Space_wayTo_51] at H
    rw [zs_iload (ls := [some (.ref 41), o1, some (.ref 81), some (.int v3), some (.int v4), some (.int v5)]) zd_201_51 rfl]
    by_cases c2 : v5 ≤ 0
    · rw [if_pos c2] at H
      rw [zp_if_le_t (x := v5) (t := 107) zd_201_53 rfl c2]
      rw [zs_iload_n (ls := [some (.ref 41), o1, some (.ref 81), some (.int v3), some (.int v4), some (.int v5)]) zd_201_107 rfl]
      have H := Option.some.inj H
      subst H
      exact zs_ireturn zd_201_108 rfl
    · rw [if_neg c2] at H
      rw [zp_if_le_f (x := v5) (t := 107) zd_201_53 rfl c2]
      rw [zs_aload_n (ls := [some (.ref 41), o1, some (.ref 81), some (.int v3), some (.int v4), some (.int v5)]) zd_201_56 rfl]
      rw [zs_iload (ls := [some (.ref 41), o1, some (.ref 81), some (.int v3), some (.int v4), some (.int v5)]) zd_201_57 rfl]
      obtain ⟨r3, hr3, H⟩ := Option.bind_eq_some_iff.mp H
      rw [zp_callVi (x := r3) (st := [.int v5, .ref 41]) (as := [.ref 41, .int v5]) (rest := []) (e := 0) zd_201_59 rfl (by decide +kernel) (by decide) rfl rfl (Nat.le_of_ble_eq_true rfl) (zx_rcb_ok rfl (show 41 < 119 by decide)) (Nat.le_of_ble_eq_true rfl) rfl (by decide) (zt_Space_has hr3)]
      by_cases c4 : r3 = 0
      · rw [if_pos c4] at H
        rw [zp_if_eq_t (x := r3) (t := 107) zd_201_62 rfl c4]
        rw [zs_iload_n (ls := [some (.ref 41), o1, some (.ref 81), some (.int v3), some (.int v4), some (.int v5)]) zd_201_107 rfl]
        have H := Option.some.inj H
        subst H
        exact zs_ireturn zd_201_108 rfl
      · rw [if_neg c4] at H
        rw [zp_if_eq_f (x := r3) (t := 107) zd_201_62 rfl c4]
        rw [zs_iload (ls := [some (.ref 41), o1, some (.ref 81), some (.int v3), some (.int v4), some (.int v5)]) zd_201_65 rfl]
        by_cases c5 : v4 < 0
        · rw [if_pos c5] at H
          rw [zp_if_lt_t (x := v4) (t := 107) zd_201_67 rfl c5]
          rw [zs_iload_n (ls := [some (.ref 41), o1, some (.ref 81), some (.int v3), some (.int v4), some (.int v5)]) zd_201_107 rfl]
          have H := Option.some.inj H
          subst H
          exact zs_ireturn zd_201_108 rfl
        · rw [if_neg c5] at H
          rw [zp_if_lt_f (x := v4) (t := 107) zd_201_67 rfl c5]
          rw [zs_iload (ls := [some (.ref 41), o1, some (.ref 81), some (.int v3), some (.int v4), some (.int v5)]) zd_201_70 rfl]
          rw [zs_aload_n (ls := [some (.ref 41), o1, some (.ref 81), some (.int v3), some (.int v4), some (.int v5)]) zd_201_72 rfl]
          rw [zs_arraylength (n := 119) (K := zx_pk (zK L) 119) (q := 81) (m := 4000) (z := 4000) zd_201_73 rfl (by decide) (by decide)]
          by_cases c6 : 4000 ≤ v4
          · rw [if_pos c6] at H
            rw [zp_icmp_ge_t (x := v4) (y := 4000) (t := 90) zd_201_74 rfl c6]
            exact zt_Space_wayTo_90 (hk51 := ih) H
          · rw [if_neg c6] at H
            rw [zp_icmp_ge_f (x := v4) (y := 4000) (t := 90) zd_201_74 rfl c6]
            rw [zs_aload_n (ls := [some (.ref 41), o1, some (.ref 81), some (.int v3), some (.int v4), some (.int v5)]) zd_201_77 rfl]
            rw [zs_iload (ls := [some (.ref 41), o1, some (.ref 81), some (.int v3), some (.int v4), some (.int v5)]) zd_201_78 rfl]
            rw [zs_aload_n (ls := [some (.ref 41), o1, some (.ref 81), some (.int v3), some (.int v4), some (.int v5)]) zd_201_80 rfl]
            rw [zs_getR (n := 119) (K := zx_pk (zK L) 119) (ρ := zR) (c := 8) (k := 3) (q := 41) (p := 43) zd_201_81 rfl rfl rfl (by decide) rfl]
            rw [zs_iload (ls := [some (.ref 41), o1, some (.ref 81), some (.int v3), some (.int v4), some (.int v5)]) zd_201_84 rfl]
            by_cases c8 : 0 ≤ v5 ∧ v5 < 4000
            · rw [if_pos c8] at H
              rw [zp_iaload (n := 119) (K := zx_pk (zK L) 119) (σ := σ) (q := 43) (m := 4000) (i := v5) (k := v5.toNatClampNeg) (v := (σ 43 v5.toNatClampNeg)) zd_201_86 rfl (by decide) (zJ_in c8 rfl) rfl rfl]
              rw [zs_iconst (z := 4) zd_201_87 (by decide)]
              rw [zp_irem (x := (σ 43 v5.toNatClampNeg)) (y := 4) (z := (zJ_rem (σ 43 v5.toNatClampNeg) 4)) zd_201_88 (by decide) rfl]
              by_cases c9 : 0 ≤ v4 ∧ v4 < 4000
              · rw [if_pos c9] at H
                rw [zp_iastore (n := 119) (K := zx_pk (zK L) 119) (q := 81) (m := 4000) (i := v4) (k := v4.toNatClampNeg) (x := (zJ_rem (σ 43 v5.toNatClampNeg) 4)) (z := (zJ_rem (σ 43 v5.toNatClampNeg) 4)) zd_201_89 rfl ⟨by decide, by decide⟩ (zJ_in c9 rfl) rfl rfl]
                exact zt_Space_wayTo_90 (hk51 := ih) H
              · rw [if_neg c9] at H
                cases H
            · rw [if_neg c8] at H
              cases H
set_option maxRecDepth 20000 in
theorem zt_Space_wayTo_43 {a b L N : Nat} {σ : zS} {τ : zT} {v1 : Int32} {v3 : Int32} {o4 : Option Value} {o5 : Option Value} {r : Int32 × zS} (H : zb_Space_wayTo_43 N σ v1 v3 = some r) : zx_go 1 201 43 [some (.ref 41), some (.int v1), some (.ref 81), some (.int v3), o4, o5] [] ((119, a, b), zx_pk (zK L) 119, σ, τ, zR) = some (some (.int r.1), ((119, a, b), zx_pk (zK L) 119, r.2, τ, zR)) := by
  unfold zb_Space_wayTo_43 at H
  rw [zs_iload_n (ls := [some (.ref 41), some (.int v1), some (.ref 81), some (.int v3), o4, o5]) zd_201_43 rfl]
  rw [zs_iconst (z := 1) zd_201_44 (by decide)]
  rw [zp_isub (x := v3) (y := 1) (z := (v3 - 1)) zd_201_45 rfl]
  rw [zs_istore (x := (v3 - 1)) (ls' := [some (.ref 41), some (.int v1), some (.ref 81), some (.int v3), some (.int (v3 - 1)), o5]) zd_201_46 (Nat.le_of_ble_eq_true rfl) rfl]
  rw [zs_iload_n (ls := [some (.ref 41), some (.int v1), some (.ref 81), some (.int v3), some (.int (v3 - 1)), o5]) zd_201_48 rfl]
  rw [zs_istore (x := v1) (ls' := [some (.ref 41), some (.int v1), some (.ref 81), some (.int v3), some (.int (v3 - 1)), some (.int v1)]) zd_201_49 (Nat.le_of_ble_eq_true rfl) rfl]
  exact zt_Space_wayTo_51  H
