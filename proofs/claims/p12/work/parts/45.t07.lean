/-! theorems of the functions, by program -/
set_option maxRecDepth 20000 in
theorem zt_Space_wayTo_5 {a b L N : Nat} : ∀ {n : Nat} {σ : zS} {τ : zT} {v1 : Int32} {v3 : Int32} {v4 : Int32} {o5 : Option Value} {r : Int32 × zS}, zb_Space_wayTo_5 N n σ v1 v3 v4 = some r → zx_go 1 201 5 [some (.ref 41), some (.int v1), some (.ref 81), some (.int v3), some (.int v4), o5] [] ((119, a, b), zx_pk (zK L) 119, σ, τ, zR) = some (some (.int r.1), ((119, a, b), zx_pk (zK L) 119, r.2, τ, zR)) := by
  intro n
  induction n with
  | zero =>
    intro _ _ _ _ _ _ _ H
    cases H
  | succ n ih =>
    intro σ τ v1 v3 v4 o5 r H
    rw [zb_Space_wayTo_5] at H
    rw [zs_iload (ls := [some (.ref 41), some (.int v1), some (.ref 81), some (.int v3), some (.int v4), o5]) zd_201_5 rfl]
    by_cases c1 : v4 ≤ 0
    · rw [if_pos c1] at H
      rw [zp_if_le_t (x := v4) (t := 43) zd_201_7 rfl c1]
      exact zt_Space_wayTo_43  H
    · rw [if_neg c1] at H
      rw [zp_if_le_f (x := v4) (t := 43) zd_201_7 rfl c1]
      rw [zs_aload_n (ls := [some (.ref 41), some (.int v1), some (.ref 81), some (.int v3), some (.int v4), o5]) zd_201_10 rfl]
      rw [zs_iload (ls := [some (.ref 41), some (.int v1), some (.ref 81), some (.int v3), some (.int v4), o5]) zd_201_11 rfl]
      obtain ⟨r10, hr10, H⟩ := Option.bind_eq_some_iff.mp H
      rw [zp_callVi (x := r10) (st := [.int v4, .ref 41]) (as := [.ref 41, .int v4]) (rest := []) (e := 0) zd_201_13 rfl (by decide +kernel) (by decide) rfl rfl (Nat.le_of_ble_eq_true rfl) (zx_rcb_ok rfl (show 41 < 119 by decide)) (Nat.le_of_ble_eq_true rfl) rfl (by decide) (zt_Space_has hr10)]
      by_cases c11 : r10 = 0
      · rw [if_pos c11] at H
        rw [zp_if_eq_t (x := r10) (t := 43) zd_201_16 rfl c11]
        exact zt_Space_wayTo_43  H
      · rw [if_neg c11] at H
        rw [zp_if_eq_f (x := r10) (t := 43) zd_201_16 rfl c11]
        rw [zs_iload_n (ls := [some (.ref 41), some (.int v1), some (.ref 81), some (.int v3), some (.int v4), o5]) zd_201_19 rfl]
        rw [zs_sipush (z := 4000) zd_201_20 (by decide)]
        by_cases c12 : 4000 ≤ v3
        · rw [if_pos c12] at H
          rw [zp_icmp_ge_t (x := v3) (y := 4000) (t := 43) zd_201_23 rfl c12]
          exact zt_Space_wayTo_43  H
        · rw [if_neg c12] at H
          rw [zp_icmp_ge_f (x := v3) (y := 4000) (t := 43) zd_201_23 rfl c12]
          rw [zs_iinc (ls := [some (.ref 41), some (.int v1), some (.ref 81), some (.int v3), some (.int v4), o5]) (x := v3) (z := (v3 + 1)) (ls' := [some (.ref 41), some (.int v1), some (.ref 81), some (.int (v3 + 1)), some (.int v4), o5]) zd_201_26 rfl rfl rfl]
          rw [zs_aload_n (ls := [some (.ref 41), some (.int v1), some (.ref 81), some (.int (v3 + 1)), some (.int v4), o5]) zd_201_29 rfl]
          rw [zs_getR (n := 119) (K := zx_pk (zK L) 119) (ρ := zR) (c := 8) (k := 3) (q := 41) (p := 43) zd_201_30 rfl rfl rfl (by decide) rfl]
          rw [zs_iload (ls := [some (.ref 41), some (.int v1), some (.ref 81), some (.int (v3 + 1)), some (.int v4), o5]) zd_201_33 rfl]
          by_cases c13 : 0 ≤ v4 ∧ v4 < 4000
          · rw [if_pos c13] at H
            rw [zp_iaload (n := 119) (K := zx_pk (zK L) 119) (σ := σ) (q := 43) (m := 4000) (i := v4) (k := v4.toNatClampNeg) (v := (σ 43 v4.toNatClampNeg)) zd_201_35 rfl (by decide) (zJ_in c13 rfl) rfl rfl]
            rw [zs_iconst (z := 4) zd_201_36 (by decide)]
            rw [zp_idiv (x := (σ 43 v4.toNatClampNeg)) (y := 4) (z := ((σ 43 v4.toNatClampNeg) / 4)) zd_201_37 (by decide) rfl]
            rw [zs_istore (x := ((σ 43 v4.toNatClampNeg) / 4)) (ls' := [some (.ref 41), some (.int v1), some (.ref 81), some (.int (v3 + 1)), some (.int ((σ 43 v4.toNatClampNeg) / 4)), o5]) zd_201_38 (Nat.le_of_ble_eq_true rfl) rfl]
            rw [zs_goto (t := 5) zd_201_40 rfl]
            exact ih H
          · rw [if_neg c13] at H
            cases H
set_option maxRecDepth 20000 in
theorem zt_Space_wayTo {a b L N : Nat} {σ : zS} {τ : zT} {x1 : Int32} {r : Int32 × zS} (H : zf_Space_wayTo N σ x1 = some r) : zx_go 1 201 0 [some (.ref 41), some (.int x1), some (.ref 81), none, none, none] [] ((119, a, b), zx_pk (zK L) 119, σ, τ, zR) = some (some (.int r.1), ((119, a, b), zx_pk (zK L) 119, r.2, τ, zR)) := by
  unfold zf_Space_wayTo at H
  rw [zs_iconst (z := 0) zd_201_0 (by decide)]
  rw [zs_istore_n (x := 0) (ls' := [some (.ref 41), some (.int x1), some (.ref 81), some (.int 0), none, none]) zd_201_1 (Nat.le_of_ble_eq_true rfl) rfl]
  rw [zs_iload_n (ls := [some (.ref 41), some (.int x1), some (.ref 81), some (.int 0), none, none]) zd_201_2 rfl]
  rw [zs_istore (x := x1) (ls' := [some (.ref 41), some (.int x1), some (.ref 81), some (.int 0), some (.int x1), none]) zd_201_3 (Nat.le_of_ble_eq_true rfl) rfl]
  exact zt_Space_wayTo_5  H
set_option maxRecDepth 20000 in
theorem zt_X_show {a b L N : Nat} {σ : zS} {τ : zT} {x1 : Int32} {x2 : Int32} {r : Int32 × zS} (H : zf_X_show N σ x1 x2 = some r) : zx_go 2 199 0 [some (.ref 2), some (.int x1), some (.int x2), none] [] ((119, a, b), zx_pk (zK L) 119, σ, τ, zR) = some (some (.int r.1), ((119, a, b), zx_pk (zK L) 119, r.2, τ, zR)) := by
  unfold zf_X_show at H
  rw [zs_aload_n (ls := [some (.ref 2), some (.int x1), some (.int x2), none]) zd_199_0 rfl]
  rw [zp_getZ (n := 119) (K := zx_pk (zK L) 119) (σ := σ) (c := 11) (k := 15) (q := 2) (v := (σ 2 15)) zd_199_1 rfl rfl rfl (by decide) rfl]
  by_cases c1 : ¬ (σ 2 15) = 0
  · rw [if_pos c1] at H
    rw [zp_if_ne_t (x := (σ 2 15)) (t := 10) zd_199_4 rfl c1]
    rw [zs_aload_n (ls := [some (.ref 2), some (.int x1), some (.int x2), none]) zd_199_10 rfl]
    rw [zs_iload_n (ls := [some (.ref 2), some (.int x1), some (.int x2), none]) zd_199_11 rfl]
    rw [zs_iload_n (ls := [some (.ref 2), some (.int x1), some (.int x2), none]) zd_199_12 rfl]
    obtain ⟨r2, hr2, H⟩ := Option.bind_eq_some_iff.mp H
    rw [zp_callVi (x := r2) (st := [.int x2, .int x1, .ref 2]) (as := [.ref 2, .int x1, .int x2]) (rest := []) (e := 1) zd_199_13 rfl (by decide +kernel) (by decide) rfl rfl (Nat.le_of_ble_eq_true rfl) (zx_rcb_ok rfl (show 2 < 119 by decide)) (Nat.le_of_ble_eq_true rfl) rfl (by decide) (zt_X_shownState hr2)]
    rw [zs_istore_n (x := r2) (ls' := [some (.ref 2), some (.int x1), some (.int x2), some (.int r2)]) zd_199_16 (Nat.le_of_ble_eq_true rfl) rfl]
    rw [zs_iload_n (ls := [some (.ref 2), some (.int x1), some (.int x2), some (.int r2)]) zd_199_17 rfl]
    rw [zs_iconst (z := (-1)) zd_199_18 (by decide)]
    by_cases c3 : ¬ r2 = (-1)
    · rw [if_pos c3] at H
      rw [zp_icmp_ne_t (x := r2) (y := (-1)) (t := 25) zd_199_19 rfl c3]
      rw [zs_aload_n (ls := [some (.ref 2), some (.int x1), some (.int x2), some (.int r2)]) zd_199_25 rfl]
      rw [zs_aload_n (ls := [some (.ref 2), some (.int x1), some (.int x2), some (.int r2)]) zd_199_26 rfl]
      rw [zs_getR (n := 119) (K := zx_pk (zK L) 119) (ρ := zR) (c := 11) (k := 4) (q := 2) (p := 41) zd_199_27 rfl rfl rfl (by decide) rfl]
      rw [zs_iload_n (ls := [some (.ref 2), some (.int x1), some (.int x2), some (.int r2)]) zd_199_30 rfl]
      rw [zs_aload_n (ls := [some (.ref 2), some (.int x1), some (.int x2), some (.int r2)]) zd_199_31 rfl]
      rw [zs_getR (n := 119) (K := zx_pk (zK L) 119) (ρ := zR) (c := 11) (k := 10) (q := 2) (p := 81) zd_199_32 rfl rfl rfl (by decide) rfl]
      obtain ⟨r4, hr4, H⟩ := Option.bind_eq_some_iff.mp H
      rw [zp_callVi (x := r4.1) (st := [.ref 81, .int r2, .ref 41, .ref 2]) (as := [.ref 41, .int r2, .ref 81]) (rest := [.ref 2]) (e := 1) zd_199_35 rfl (by decide +kernel) (by decide) rfl rfl (Nat.le_of_ble_eq_true rfl) (zx_rcb_ok rfl (show 41 < 119 by decide)) (Nat.le_of_ble_eq_true rfl) rfl (by decide) (zt_Space_wayTo hr4)]
      rw [zs_putI (n := 119) (K := zx_pk (zK L) 119) (c := 11) (k := 16) (q := 2) (x := r4.1) zd_199_38 rfl rfl (by decide +kernel) rfl (by decide)]
      rw [zs_iload_n (ls := [some (.ref 2), some (.int x1), some (.int x2), some (.int r2)]) zd_199_41 rfl]
      have H := Option.some.inj H
      subst H
      exact zs_ireturn zd_199_42 rfl
    · rw [if_neg c3] at H
      rw [zp_icmp_ne_f (x := r2) (y := (-1)) (t := 25) zd_199_19 rfl c3]
      rw [zs_bipush (z := (-102)) zd_199_22 (by decide)]
      have H := Option.some.inj H
      subst H
      exact zs_ireturn zd_199_24 (by decide +kernel)
  · rw [if_neg c1] at H
    rw [zp_if_ne_f (x := (σ 2 15)) (t := 10) zd_199_4 rfl c1]
    rw [zs_bipush (z := (-101)) zd_199_7 (by decide)]
    have H := Option.some.inj H
    subst H
    exact zs_ireturn zd_199_9 (by decide +kernel)
set_option maxRecDepth 20000 in
theorem zt_M_pairOf_33 {a b L N : Nat} {k4 : zS → Int32 → Int32 → Int32 → Option (Int32)} (hk4 : ∀ {σ : zS} {τ : zT} {v1 : Int32} {v2 : Int32} {v3 : Int32} {r : Int32}, k4 σ v1 v2 v3 = some r → zx_go 0 204 4 [some (.ref 82), some (.int v1), some (.int v2), some (.int v3)] [] ((119, a, b), zx_pk (zK L) 119, σ, τ, zR) = some (some (.int r), ((119, a, b), zx_pk (zK L) 119, σ, τ, zR))) {σ : zS} {τ : zT} {v1 : Int32} {v2 : Int32} {v3 : Int32} {r : Int32} (H : zb_M_pairOf_33 k4 N σ v1 v2 v3 = some r) : zx_go 0 204 33 [some (.ref 82), some (.int v1), some (.int v2), some (.int v3)] [] ((119, a, b), zx_pk (zK L) 119, σ, τ, zR) = some (some (.int r), ((119, a, b), zx_pk (zK L) 119, σ, τ, zR)) := by
  unfold zb_M_pairOf_33 at H
  rw [zs_iinc (ls := [some (.ref 82), some (.int v1), some (.int v2), some (.int v3)]) (x := v3) (z := (v3 + 1)) (ls' := [some (.ref 82), some (.int v1), some (.int v2), some (.int (v3 + 1))]) zd_204_33 rfl rfl rfl]
  rw [zs_goto (t := 4) zd_204_36 rfl]
  exact hk4 H
set_option maxRecDepth 20000 in
theorem zt_M_pairOf_4 {a b L N : Nat} : ∀ {n : Nat} {σ : zS} {τ : zT} {v1 : Int32} {v2 : Int32} {v3 : Int32} {r : Int32}, zb_M_pairOf_4 N n σ v1 v2 v3 = some r → zx_go 0 204 4 [some (.ref 82), some (.int v1), some (.int v2), some (.int v3)] [] ((119, a, b), zx_pk (zK L) 119, σ, τ, zR) = some (some (.int r), ((119, a, b), zx_pk (zK L) 119, σ, τ, zR)) := by
  intro n
  induction n with
  | zero =>
    intro _ _ _ _ _ _ H
    cases H
  | succ n ih =>
    intro σ τ v1 v2 v3 r H
    rw [zb_M_pairOf_4] at H
    rw [zs_iload_n (ls := [some (.ref 82), some (.int v1), some (.int v2), some (.int v3)]) zd_204_4 rfl]
    rw [zs_sipush (z := 9216) zd_204_5 (by decide)]
    by_cases c1 : 9216 ≤ v3
    · rw [if_pos c1] at H
      rw [zp_icmp_ge_t (x := v3) (y := 9216) (t := 39) zd_204_8 rfl c1]
      rw [zs_iconst (z := (-1)) zd_204_39 (by decide)]
      have H := Option.some.inj H
      subst H
      exact zs_ireturn zd_204_40 (by decide +kernel)
    · rw [if_neg c1] at H
      rw [zp_icmp_ge_f (x := v3) (y := 9216) (t := 39) zd_204_8 rfl c1]
      rw [zs_iload_n (ls := [some (.ref 82), some (.int v1), some (.int v2), some (.int v3)]) zd_204_11 rfl]
      by_cases c2 : v1 < 0
      · rw [if_pos c2] at H
        rw [zp_if_lt_t (x := v1) (t := 39) zd_204_12 rfl c2]
        rw [zs_iconst (z := (-1)) zd_204_39 (by decide)]
        have H := Option.some.inj H
        subst H
        exact zs_ireturn zd_204_40 (by decide +kernel)
      · rw [if_neg c2] at H
        rw [zp_if_lt_f (x := v1) (t := 39) zd_204_12 rfl c2]
        rw [zs_aload_n (ls := [some (.ref 82), some (.int v1), some (.int v2), some (.int v3)]) zd_204_15 rfl]
        rw [zs_getR (n := 119) (K := zx_pk (zK L) 119) (ρ := zR) (c := 12) (k := 58) (q := 82) (p := 114) zd_204_16 rfl rfl rfl (by decide) rfl]
        rw [zs_iload_n (ls := [some (.ref 82), some (.int v1), some (.int v2), some (.int v3)]) zd_204_19 rfl]
        by_cases c3 : 0 ≤ v3 ∧ v3 < 9216
        · rw [if_pos c3] at H
          rw [zp_iaload (n := 119) (K := zx_pk (zK L) 119) (σ := σ) (q := 114) (m := 9216) (i := v3) (k := v3.toNatClampNeg) (v := (σ 114 v3.toNatClampNeg)) zd_204_20 rfl (by decide) (zJ_in c3 rfl) rfl rfl]
          by_cases c4 : (σ 114 v3.toNatClampNeg) ≤ 0
          · rw [if_pos c4] at H
            rw [zp_if_le_t (x := (σ 114 v3.toNatClampNeg)) (t := 33) zd_204_21 rfl c4]
            exact zt_M_pairOf_33 (hk4 := ih) H
          · rw [if_neg c4] at H
            rw [zp_if_le_f (x := (σ 114 v3.toNatClampNeg)) (t := 33) zd_204_21 rfl c4]
            rw [zs_iload_n (ls := [some (.ref 82), some (.int v1), some (.int v2), some (.int v3)]) zd_204_24 rfl]
            by_cases c5 : ¬ v2 = 0
            · rw [if_pos c5] at H
              rw [zp_if_ne_t (x := v2) (t := 30) zd_204_25 rfl c5]
              rw [zs_iinc (ls := [some (.ref 82), some (.int v1), some (.int v2), some (.int v3)]) (x := v2) (z := (v2 + (-1))) (ls' := [some (.ref 82), some (.int v1), some (.int (v2 + (-1))), some (.int v3)]) zd_204_30 rfl rfl rfl]
              exact zt_M_pairOf_33 (hk4 := ih) H
            · rw [if_neg c5] at H
              rw [zp_if_ne_f (x := v2) (t := 30) zd_204_25 rfl c5]
              rw [zs_iload_n (ls := [some (.ref 82), some (.int v1), some (.int v2), some (.int v3)]) zd_204_28 rfl]
              have H := Option.some.inj H
              subst H
              exact zs_ireturn zd_204_29 rfl
        · rw [if_neg c3] at H
          cases H
set_option maxRecDepth 20000 in
theorem zt_M_pairOf {a b L N : Nat} {σ : zS} {τ : zT} {x1 : Int32} {r : Int32} (H : zf_M_pairOf N σ x1 = some r) : zx_go 0 204 0 [some (.ref 82), some (.int x1), none, none] [] ((119, a, b), zx_pk (zK L) 119, σ, τ, zR) = some (some (.int r), ((119, a, b), zx_pk (zK L) 119, σ, τ, zR)) := by
  unfold zf_M_pairOf at H
  rw [zs_iload_n (ls := [some (.ref 82), some (.int x1), none, none]) zd_204_0 rfl]
  rw [zs_istore_n (x := x1) (ls' := [some (.ref 82), some (.int x1), some (.int x1), none]) zd_204_1 (Nat.le_of_ble_eq_true rfl) rfl]
  rw [zs_iconst (z := 0) zd_204_2 (by decide)]
  rw [zs_istore_n (x := 0) (ls' := [some (.ref 82), some (.int x1), some (.int x1), some (.int 0)]) zd_204_3 (Nat.le_of_ble_eq_true rfl) rfl]
  exact zt_M_pairOf_4  H
set_option maxRecDepth 20000 in
theorem zt_M_stateShown_113 {a b L N : Nat} {k80 : zS → Int32 → Int32 → Int32 → Int32 → Option (Int32)} (hk80 : ∀ {σ : zS} {τ : zT} {v1 : Int32} {v2 : Int32} {v3 : Int32} {v4 : Int32} {r : Int32}, k80 σ v1 v2 v3 v4 = some r → zx_go 2 203 80 [some (.ref 82), some (.int v1), some (.int v2), some (.int v3), some (.int v4)] [] ((119, a, b), zx_pk (zK L) 119, σ, τ, zR) = some (some (.int r), ((119, a, b), zx_pk (zK L) 119, σ, τ, zR))) {σ : zS} {τ : zT} {v1 : Int32} {v2 : Int32} {v3 : Int32} {v4 : Int32} {r : Int32} (H : zb_M_stateShown_113 k80 N σ v1 v2 v3 v4 = some r) : zx_go 2 203 113 [some (.ref 82), some (.int v1), some (.int v2), some (.int v3), some (.int v4)] [] ((119, a, b), zx_pk (zK L) 119, σ, τ, zR) = some (some (.int r), ((119, a, b), zx_pk (zK L) 119, σ, τ, zR)) := by
  unfold zb_M_stateShown_113 at H
  rw [zs_iinc (ls := [some (.ref 82), some (.int v1), some (.int v2), some (.int v3), some (.int v4)]) (x := v4) (z := (v4 + 1)) (ls' := [some (.ref 82), some (.int v1), some (.int v2), some (.int v3), some (.int (v4 + 1))]) zd_203_113 rfl rfl rfl]
  rw [zs_goto (t := 80) zd_203_116 rfl]
  exact hk80 H
set_option maxRecDepth 20000 in
theorem zt_M_stateShown_80 {a b L N : Nat} : ∀ {n : Nat} {σ : zS} {τ : zT} {v1 : Int32} {v2 : Int32} {v3 : Int32} {v4 : Int32} {r : Int32}, zb_M_stateShown_80 N n σ v1 v2 v3 v4 = some r → zx_go 2 203 80 [some (.ref 82), some (.int v1), some (.int v2), some (.int v3), some (.int v4)] [] ((119, a, b), zx_pk (zK L) 119, σ, τ, zR) = some (some (.int r), ((119, a, b), zx_pk (zK L) 119, σ, τ, zR)) := by
  intro n
  induction n with
  | zero =>
    intro _ _ _ _ _ _ _ H
    cases H
  | succ n ih =>
    intro σ τ v1 v2 v3 v4 r H
    rw [zb_M_stateShown_80] at H
    rw [zs_iload (ls := [some (.ref 82), some (.int v1), some (.int v2), some (.int v3), some (.int v4)]) zd_203_80 rfl]
    rw [zs_aload_n (ls := [some (.ref 82), some (.int v1), some (.int v2), some (.int v3), some (.int v4)]) zd_203_82 rfl]
    rw [zp_getI (n := 119) (K := zx_pk (zK L) 119) (σ := σ) (c := 12) (k := 54) (q := 82) (v := (σ 82 54)) zd_203_83 rfl rfl rfl (by decide) rfl]
    by_cases c4 : (σ 82 54) ≤ v4
    · rw [if_pos c4] at H
      rw [zp_icmp_ge_t (x := v4) (y := (σ 82 54)) (t := 119) zd_203_86 rfl c4]
      rw [zs_iconst (z := (-1)) zd_203_119 (by decide)]
      have H := Option.some.inj H
      subst H
      exact zs_ireturn zd_203_120 (by decide +kernel)
    · rw [if_neg c4] at H
      rw [zp_icmp_ge_f (x := v4) (y := (σ 82 54)) (t := 119) zd_203_86 rfl c4]
      rw [zs_iload_n (ls := [some (.ref 82), some (.int v1), some (.int v2), some (.int v3), some (.int v4)]) zd_203_89 rfl]
      by_cases c5 : v2 < 0
      · rw [if_pos c5] at H
        rw [zp_if_lt_t (x := v2) (t := 119) zd_203_90 rfl c5]
        rw [zs_iconst (z := (-1)) zd_203_119 (by decide)]
        have H := Option.some.inj H
        subst H
        exact zs_ireturn zd_203_120 (by decide +kernel)
      · rw [if_neg c5] at H
        rw [zp_if_lt_f (x := v2) (t := 119) zd_203_90 rfl c5]
        rw [zs_aload_n (ls := [some (.ref 82), some (.int v1), some (.int v2), some (.int v3), some (.int v4)]) zd_203_93 rfl]
        rw [zs_iload (ls := [some (.ref 82), some (.int v1), some (.int v2), some (.int v3), some (.int v4)]) zd_203_94 rfl]
        rw [zs_iload_n (ls := [some (.ref 82), some (.int v1), some (.int v2), some (.int v3), some (.int v4)]) zd_203_96 rfl]
        obtain ⟨r6, hr6, H⟩ := Option.bind_eq_some_iff.mp H
        rw [zp_callVi (x := r6) (st := [.int v1, .int v4, .ref 82]) (as := [.ref 82, .int v4, .int v1]) (rest := []) (e := 1) zd_203_97 rfl (by decide +kernel) (by decide) rfl rfl (Nat.le_of_ble_eq_true rfl) (zx_rcb_ok rfl (show 82 < 119 by decide)) (Nat.le_of_ble_eq_true rfl) rfl (by decide) (zt_M_isOf hr6)]
        by_cases c7 : r6 = 0
        · rw [if_pos c7] at H
          rw [zp_if_eq_t (x := r6) (t := 113) zd_203_100 rfl c7]
          exact zt_M_stateShown_113 (hk80 := ih) H
        · rw [if_neg c7] at H
          rw [zp_if_eq_f (x := r6) (t := 113) zd_203_100 rfl c7]
          rw [zs_iload_n (ls := [some (.ref 82), some (.int v1), some (.int v2), some (.int v3), some (.int v4)]) zd_203_103 rfl]
          by_cases c8 : ¬ v3 = 0
          · rw [if_pos c8] at H
            rw [zp_if_ne_t (x := v3) (t := 110) zd_203_104 rfl c8]
            rw [zs_iinc (ls := [some (.ref 82), some (.int v1), some (.int v2), some (.int v3), some (.int v4)]) (x := v3) (z := (v3 + (-1))) (ls' := [some (.ref 82), some (.int v1), some (.int v2), some (.int (v3 + (-1))), some (.int v4)]) zd_203_110 rfl rfl rfl]
            exact zt_M_stateShown_113 (hk80 := ih) H
          · rw [if_neg c8] at H
            rw [zp_if_ne_f (x := v3) (t := 110) zd_203_104 rfl c8]
            rw [zs_iload (ls := [some (.ref 82), some (.int v1), some (.int v2), some (.int v3), some (.int v4)]) zd_203_107 rfl]
            have H := Option.some.inj H
            subst H
            exact zs_ireturn zd_203_109 rfl
set_option maxRecDepth 20000 in
theorem zt_M_stateShown_75 {a b L N : Nat} {σ : zS} {τ : zT} {v1 : Int32} {v2 : Int32} {o3 : Option Value} {o4 : Option Value} {r : Int32} (H : zb_M_stateShown_75 N σ v1 v2 = some r) : zx_go 2 203 75 [some (.ref 82), some (.int v1), some (.int v2), o3, o4] [] ((119, a, b), zx_pk (zK L) 119, σ, τ, zR) = some (some (.int r), ((119, a, b), zx_pk (zK L) 119, σ, τ, zR)) := by
  unfold zb_M_stateShown_75 at H
  rw [zs_iload_n (ls := [some (.ref 82), some (.int v1), some (.int v2), o3, o4]) zd_203_75 rfl]
  rw [zs_istore_n (x := v2) (ls' := [some (.ref 82), some (.int v1), some (.int v2), some (.int v2), o4]) zd_203_76 (Nat.le_of_ble_eq_true rfl) rfl]
  rw [zs_iconst (z := 0) zd_203_77 (by decide)]
  rw [zs_istore (x := 0) (ls' := [some (.ref 82), some (.int v1), some (.int v2), some (.int v2), some (.int 0)]) zd_203_78 (Nat.le_of_ble_eq_true rfl) rfl]
  exact zt_M_stateShown_80  H
set_option maxRecDepth 20000 in
theorem zt_M_stateShown {a b L N : Nat} {σ : zS} {τ : zT} {x1 : Int32} {x2 : Int32} {r : Int32} (H : zf_M_stateShown N σ x1 x2 = some r) : zx_go 2 203 0 [some (.ref 82), some (.int x1), some (.int x2), none, none] [] ((119, a, b), zx_pk (zK L) 119, σ, τ, zR) = some (some (.int r), ((119, a, b), zx_pk (zK L) 119, σ, τ, zR)) := by
  unfold zf_M_stateShown at H
  rw [zs_iload_n (ls := [some (.ref 82), some (.int x1), some (.int x2), none, none]) zd_203_0 rfl]
  by_cases c1 : ¬ x1 = 0
  · rw [if_pos c1] at H
    rw [zp_if_ne_t (x := x1) (t := 28) zd_203_1 rfl c1]
    rw [zs_iload_n (ls := [some (.ref 82), some (.int x1), some (.int x2), none, none]) zd_203_28 rfl]
    rw [zs_iconst (z := 3) zd_203_29 (by decide)]
    by_cases c2 : ¬ x1 = 3
    · rw [if_pos c2] at H
      rw [zp_icmp_ne_t (x := x1) (y := 3) (t := 58) zd_203_30 rfl c2]
      rw [zs_iload_n (ls := [some (.ref 82), some (.int x1), some (.int x2), none, none]) zd_203_58 rfl]
      rw [zs_iconst (z := 1) zd_203_59 (by decide)]
      by_cases c3 : x1 = 1
      · rw [if_pos c3] at H
        rw [zp_icmp_eq_t (x := x1) (y := 1) (t := 75) zd_203_60 rfl c3]
        exact zt_M_stateShown_75  H
      · rw [if_neg c3] at H
        rw [zp_icmp_eq_f (x := x1) (y := 1) (t := 75) zd_203_60 rfl c3]
        rw [zs_iload_n (ls := [some (.ref 82), some (.int x1), some (.int x2), none, none]) zd_203_63 rfl]
        rw [zs_iconst (z := 2) zd_203_64 (by decide)]
        by_cases c9 : x1 = 2
        · rw [if_pos c9] at H
          rw [zp_icmp_eq_t (x := x1) (y := 2) (t := 75) zd_203_65 rfl c9]
          exact zt_M_stateShown_75  H
        · rw [if_neg c9] at H
          rw [zp_icmp_eq_f (x := x1) (y := 2) (t := 75) zd_203_65 rfl c9]
          rw [zs_iload_n (ls := [some (.ref 82), some (.int x1), some (.int x2), none, none]) zd_203_68 rfl]
          rw [zs_iconst (z := 4) zd_203_69 (by decide)]
          by_cases c10 : x1 = 4
          · rw [if_pos c10] at H
            rw [zp_icmp_eq_t (x := x1) (y := 4) (t := 75) zd_203_70 rfl c10]
            exact zt_M_stateShown_75  H
          · rw [if_neg c10] at H
            rw [zp_icmp_eq_f (x := x1) (y := 4) (t := 75) zd_203_70 rfl c10]
            rw [zs_iconst (z := (-1)) zd_203_73 (by decide)]
            have H := Option.some.inj H
            subst H
            exact zs_ireturn zd_203_74 (by decide +kernel)
    · rw [if_neg c2] at H
      rw [zp_icmp_ne_f (x := x1) (y := 3) (t := 58) zd_203_30 rfl c2]
      rw [zs_iload_n (ls := [some (.ref 82), some (.int x1), some (.int x2), none, none]) zd_203_33 rfl]
      rw [zs_iconst (z := 0) zd_203_34 (by decide)]
      rw [zs_aload_n (ls := [some (.ref 82), some (.int x1), some (.int x2), none, none]) zd_203_35 rfl]
      rw [zp_getI (n := 119) (K := zx_pk (zK L) 119) (σ := σ) (c := 12) (k := 60) (q := 82) (v := (σ 82 60)) zd_203_36 rfl rfl rfl (by decide) rfl]
      rw [zs_iconst (z := 1) zd_203_39 (by decide)]
      rw [zp_isub (x := (σ 82 60)) (y := 1) (z := ((σ 82 60) - 1)) zd_203_40 rfl]
      obtain ⟨r11, hr11, H⟩ := Option.bind_eq_some_iff.mp H
      rw [zp_callSi (x := r11) (st := [.int ((σ 82 60) - 1), .int 0, .int x2]) (as := [.int x2, .int 0, .int ((σ 82 60) - 1)]) (rest := []) (e := 0) zd_203_41 rfl (by decide +kernel) (by decide) rfl rfl (Nat.le_of_ble_eq_true rfl) rfl (Nat.le_of_ble_eq_true rfl) rfl (by decide) (zt_M_in hr11)]
      by_cases c12 : r11 = 0
      · rw [if_pos c12] at H
        rw [zp_if_eq_t (x := r11) (t := 56) zd_203_44 rfl c12]
        rw [zs_iconst (z := (-1)) zd_203_56 (by decide)]
        have H := Option.some.inj H
        subst H
        exact zs_ireturn zd_203_57 (by decide +kernel)
      · rw [if_neg c12] at H
        rw [zp_if_eq_f (x := r11) (t := 56) zd_203_44 rfl c12]
        rw [zs_aload_n (ls := [some (.ref 82), some (.int x1), some (.int x2), none, none]) zd_203_47 rfl]
        rw [zs_getR (n := 119) (K := zx_pk (zK L) 119) (ρ := zR) (c := 12) (k := 59) (q := 82) (p := 115) zd_203_48 rfl rfl rfl (by decide) rfl]
        rw [zs_iload_n (ls := [some (.ref 82), some (.int x1), some (.int x2), none, none]) zd_203_51 rfl]
        by_cases c13 : 0 ≤ x2 ∧ x2 < 4000
        · rw [if_pos c13] at H
          rw [zp_iaload (n := 119) (K := zx_pk (zK L) 119) (σ := σ) (q := 115) (m := 4000) (i := x2) (k := x2.toNatClampNeg) (v := (σ 115 x2.toNatClampNeg)) zd_203_52 rfl (by decide) (zJ_in c13 rfl) rfl rfl]
          rw [zs_goto (t := 57) zd_203_53 rfl]
          have H := Option.some.inj H
          subst H
          exact zs_ireturn zd_203_57 rfl
        · rw [if_neg c13] at H
          cases H
  · rw [if_neg c1] at H
    rw [zp_if_ne_f (x := x1) (t := 28) zd_203_1 rfl c1]
    rw [zs_aload_n (ls := [some (.ref 82), some (.int x1), some (.int x2), none, none]) zd_203_4 rfl]
    rw [zs_iload_n (ls := [some (.ref 82), some (.int x1), some (.int x2), none, none]) zd_203_5 rfl]
    obtain ⟨r14, hr14, H⟩ := Option.bind_eq_some_iff.mp H
    rw [zp_callVi (x := r14) (st := [.int x2, .ref 82]) (as := [.ref 82, .int x2]) (rest := []) (e := 0) zd_203_6 rfl (by decide +kernel) (by decide) rfl rfl (Nat.le_of_ble_eq_true rfl) (zx_rcb_ok rfl (show 82 < 119 by decide)) (Nat.le_of_ble_eq_true rfl) rfl (by decide) (zt_M_pairOf hr14)]
    rw [zs_istore_n (x := r14) (ls' := [some (.ref 82), some (.int x1), some (.int x2), some (.int r14), none]) zd_203_9 (Nat.le_of_ble_eq_true rfl) rfl]
    rw [zs_iload_n (ls := [some (.ref 82), some (.int x1), some (.int x2), some (.int r14), none]) zd_203_10 rfl]
    rw [zs_iconst (z := (-1)) zd_203_11 (by decide)]
    by_cases c15 : ¬ r14 = (-1)
    · rw [if_pos c15] at H
      rw [zp_icmp_ne_t (x := r14) (y := (-1)) (t := 19) zd_203_12 rfl c15]
      rw [zs_aload_n (ls := [some (.ref 82), some (.int x1), some (.int x2), some (.int r14), none]) zd_203_19 rfl]
      rw [zs_getR (n := 119) (K := zx_pk (zK L) 119) (ρ := zR) (c := 12) (k := 58) (q := 82) (p := 114) zd_203_20 rfl rfl rfl (by decide) rfl]
      rw [zs_iload_n (ls := [some (.ref 82), some (.int x1), some (.int x2), some (.int r14), none]) zd_203_23 rfl]
      by_cases c16 : 0 ≤ r14 ∧ r14 < 9216
      · rw [if_pos c16] at H
        rw [zp_iaload (n := 119) (K := zx_pk (zK L) 119) (σ := σ) (q := 114) (m := 9216) (i := r14) (k := r14.toNatClampNeg) (v := (σ 114 r14.toNatClampNeg)) zd_203_24 rfl (by decide) (zJ_in c16 rfl) rfl rfl]
        rw [zs_iconst (z := 1) zd_203_25 (by decide)]
        rw [zp_isub (x := (σ 114 r14.toNatClampNeg)) (y := 1) (z := ((σ 114 r14.toNatClampNeg) - 1)) zd_203_26 rfl]
        have H := Option.some.inj H
        subst H
        exact zs_ireturn zd_203_27 rfl
      · rw [if_neg c16] at H
        cases H
    · rw [if_neg c15] at H
      rw [zp_icmp_ne_f (x := r14) (y := (-1)) (t := 19) zd_203_12 rfl c15]
      rw [zs_iconst (z := (-1)) zd_203_15 (by decide)]
      rw [zs_goto (t := 27) zd_203_16 rfl]
      have H := Option.some.inj H
      subst H
      exact zs_ireturn zd_203_27 (by decide +kernel)
set_option maxRecDepth 20000 in
theorem zt_M_show_74 {a b L N : Nat} : ∀ {n : Nat} {σ : zS} {τ : zT} {v3 : Int32} {v4 : Int32} {v5 : Int32} {o1 : Option Value} {o2 : Option Value} {r : Int32 × zS}, zb_M_show_74 N n σ v3 v4 v5 = some r → zx_go 3 202 74 [some (.ref 82), o1, o2, some (.int v3), some (.int v4), some (.int v5)] [] ((119, a, b), zx_pk (zK L) 119, σ, τ, zR) = some (some (.int r.1), ((119, a, b), zx_pk (zK L) 119, r.2, τ, zR)) := by
  intro n
  induction n with
  | zero =>
    intro _ _ _ _ _ _ _ _ H
    cases H
  | succ n ih =>
    intro σ τ v3 v4 v5 o1 o2 r H
    rw [zb_M_show_74] at H
    rw [zs_iload (ls := [some (.ref 82), o1, o2, some (.int v3), some (.int v4), some (.int v5)]) zd_202_74 rfl]
    by_cases c5 : v5 ≤ 0
    · rw [if_pos c5] at H
      rw [zp_if_le_t (x := v5) (t := 108) zd_202_76 rfl c5]
      rw [zs_iload_n (ls := [some (.ref 82), o1, o2, some (.int v3), some (.int v4), some (.int v5)]) zd_202_108 rfl]
      have H := Option.some.inj H
      subst H
      exact zs_ireturn zd_202_109 rfl
    · rw [if_neg c5] at H
      rw [zp_if_le_f (x := v5) (t := 108) zd_202_76 rfl c5]
      rw [zs_iinc (ls := [some (.ref 82), o1, o2, some (.int v3), some (.int v4), some (.int v5)]) (x := v4) (z := (v4 + (-1))) (ls' := [some (.ref 82), o1, o2, some (.int v3), some (.int (v4 + (-1))), some (.int v5)]) zd_202_79 rfl rfl rfl]
      rw [zs_aload_n (ls := [some (.ref 82), o1, o2, some (.int v3), some (.int (v4 + (-1))), some (.int v5)]) zd_202_82 rfl]
      rw [zs_getR (n := 119) (K := zx_pk (zK L) 119) (ρ := zR) (c := 12) (k := 61) (q := 82) (p := 116) zd_202_83 rfl rfl rfl (by decide) rfl]
      rw [zs_iload (ls := [some (.ref 82), o1, o2, some (.int v3), some (.int (v4 + (-1))), some (.int v5)]) zd_202_86 rfl]
      rw [zs_aload_n (ls := [some (.ref 82), o1, o2, some (.int v3), some (.int (v4 + (-1))), some (.int v5)]) zd_202_88 rfl]
      rw [zs_getR (n := 119) (K := zx_pk (zK L) 119) (ρ := zR) (c := 12) (k := 56) (q := 82) (p := 112) zd_202_89 rfl rfl rfl (by decide) rfl]
      rw [zs_iload (ls := [some (.ref 82), o1, o2, some (.int v3), some (.int (v4 + (-1))), some (.int v5)]) zd_202_92 rfl]
      by_cases c6 : 0 ≤ v5 ∧ v5 < 4000
      · rw [if_pos c6] at H
        rw [zp_iaload (n := 119) (K := zx_pk (zK L) 119) (σ := σ) (q := 112) (m := 4000) (i := v5) (k := v5.toNatClampNeg) (v := (σ 112 v5.toNatClampNeg)) zd_202_94 rfl (by decide) (zJ_in c6 rfl) rfl rfl]
        by_cases c7 : 0 ≤ (v4 + (-1)) ∧ (v4 + (-1)) < 4000
        · rw [if_pos c7] at H
          rw [zp_iastore (n := 119) (K := zx_pk (zK L) 119) (q := 116) (m := 4000) (i := (v4 + (-1))) (k := (v4 + (-1)).toNatClampNeg) (x := (σ 112 v5.toNatClampNeg)) (z := (σ 112 v5.toNatClampNeg)) zd_202_95 rfl ⟨by decide, by decide⟩ (zJ_in c7 rfl) rfl rfl]
          rw [zs_aload_n (ls := [some (.ref 82), o1, o2, some (.int v3), some (.int (v4 + (-1))), some (.int v5)]) zd_202_96 rfl]
          rw [zs_getR (n := 119) (K := zx_pk (zK L) 119) (ρ := zR) (c := 12) (k := 55) (q := 82) (p := 111) zd_202_97 rfl rfl rfl (by decide) rfl]
          rw [zs_iload (ls := [some (.ref 82), o1, o2, some (.int v3), some (.int (v4 + (-1))), some (.int v5)]) zd_202_100 rfl]
          by_cases c8 : 0 ≤ v5 ∧ v5 < 4000
          · rw [if_pos c8] at H
            rw [zp_iaload (n := 119) (K := zx_pk (zK L) 119) (σ := (zx_up σ 116 (v4 + (-1)).toNatClampNeg (σ 112 v5.toNatClampNeg))) (q := 111) (m := 4000) (i := v5) (k := v5.toNatClampNeg) (v := (σ 111 v5.toNatClampNeg)) zd_202_102 rfl (by decide) (zJ_in c8 rfl) rfl (show ((zx_up σ 116 (v4 + (-1)).toNatClampNeg (σ 112 v5.toNatClampNeg)) : zS) 111 v5.toNatClampNeg = (σ 111 v5.toNatClampNeg) from ((zx_up_ne (by decide)).trans rfl))]
            rw [zs_istore (x := (σ 111 v5.toNatClampNeg)) (ls' := [some (.ref 82), o1, o2, some (.int v3), some (.int (v4 + (-1))), some (.int (σ 111 v5.toNatClampNeg))]) zd_202_103 (Nat.le_of_ble_eq_true rfl) rfl]
            rw [zs_goto (t := 74) zd_202_105 rfl]
            exact ih H
          · rw [if_neg c8] at H
            cases H
        · rw [if_neg c7] at H
          cases H
      · rw [if_neg c6] at H
        cases H
set_option maxRecDepth 20000 in
theorem zt_M_show_38 {a b L N : Nat} : ∀ {n : Nat} {σ : zS} {τ : zT} {v3 : Int32} {v4 : Int32} {o1 : Option Value} {o2 : Option Value} {o5 : Option Value} {r : Int32 × zS}, zb_M_show_38 N n σ v3 v4 = some r → zx_go 3 202 38 [some (.ref 82), o1, o2, some (.int v3), some (.int v4), o5] [] ((119, a, b), zx_pk (zK L) 119, σ, τ, zR) = some (some (.int r.1), ((119, a, b), zx_pk (zK L) 119, r.2, τ, zR)) := by
  intro n
  induction n with
  | zero =>
    intro _ _ _ _ _ _ _ _ H
    cases H
  | succ n ih =>
    intro σ τ v3 v4 o1 o2 o5 r H
    rw [zb_M_show_38] at H
    rw [zs_iload (ls := [some (.ref 82), o1, o2, some (.int v3), some (.int v4), o5]) zd_202_38 rfl]
    by_cases c4 : v4 ≤ 0
    · rw [if_pos c4] at H
      rw [zp_if_le_t (x := v4) (t := 65) zd_202_40 rfl c4]
      rw [zs_aload_n (ls := [some (.ref 82), o1, o2, some (.int v3), some (.int v4), o5]) zd_202_65 rfl]
      rw [zp_getI (n := 119) (K := zx_pk (zK L) 119) (σ := σ) (c := 12) (k := 62) (q := 82) (v := (σ 82 62)) zd_202_66 rfl rfl rfl (by decide) rfl]
      rw [zs_istore (x := (σ 82 62)) (ls' := [some (.ref 82), o1, o2, some (.int v3), some (.int (σ 82 62)), o5]) zd_202_69 (Nat.le_of_ble_eq_true rfl) rfl]
      rw [zs_iload_n (ls := [some (.ref 82), o1, o2, some (.int v3), some (.int (σ 82 62)), o5]) zd_202_71 rfl]
      rw [zs_istore (x := v3) (ls' := [some (.ref 82), o1, o2, some (.int v3), some (.int (σ 82 62)), some (.int v3)]) zd_202_72 (Nat.le_of_ble_eq_true rfl) rfl]
      exact zt_M_show_74  H
    · rw [if_neg c4] at H
      rw [zp_if_le_f (x := v4) (t := 65) zd_202_40 rfl c4]
      rw [zs_aload_n (ls := [some (.ref 82), o1, o2, some (.int v3), some (.int v4), o5]) zd_202_43 rfl]
      rw [zs_dup (a := .ref 82) zd_202_44 rfl]
      rw [zp_getI (n := 119) (K := zx_pk (zK L) 119) (σ := σ) (c := 12) (k := 62) (q := 82) (v := (σ 82 62)) zd_202_45 rfl rfl rfl (by decide) rfl]
      rw [zs_iconst (z := 1) zd_202_48 (by decide)]
      rw [zp_iadd (x := (σ 82 62)) (y := 1) (z := ((σ 82 62) + 1)) zd_202_49 rfl]
      rw [zs_putI (n := 119) (K := zx_pk (zK L) 119) (c := 12) (k := 62) (q := 82) (x := ((σ 82 62) + 1)) zd_202_50 rfl rfl (by decide +kernel) rfl (by decide)]
      rw [zs_aload_n (ls := [some (.ref 82), o1, o2, some (.int v3), some (.int v4), o5]) zd_202_53 rfl]
      rw [zs_getR (n := 119) (K := zx_pk (zK L) 119) (ρ := zR) (c := 12) (k := 55) (q := 82) (p := 111) zd_202_54 rfl rfl rfl (by decide) rfl]
      rw [zs_iload (ls := [some (.ref 82), o1, o2, some (.int v3), some (.int v4), o5]) zd_202_57 rfl]
      by_cases c9 : 0 ≤ v4 ∧ v4 < 4000
      · rw [if_pos c9] at H
        rw [zp_iaload (n := 119) (K := zx_pk (zK L) 119) (σ := (zx_up σ 82 62 ((σ 82 62) + 1))) (q := 111) (m := 4000) (i := v4) (k := v4.toNatClampNeg) (v := (σ 111 v4.toNatClampNeg)) zd_202_59 rfl (by decide) (zJ_in c9 rfl) rfl (show ((zx_up σ 82 62 ((σ 82 62) + 1)) : zS) 111 v4.toNatClampNeg = (σ 111 v4.toNatClampNeg) from ((zx_up_ne (by decide)).trans rfl))]
        rw [zs_istore (x := (σ 111 v4.toNatClampNeg)) (ls' := [some (.ref 82), o1, o2, some (.int v3), some (.int (σ 111 v4.toNatClampNeg)), o5]) zd_202_60 (Nat.le_of_ble_eq_true rfl) rfl]
        rw [zs_goto (t := 38) zd_202_62 rfl]
        exact ih H
      · rw [if_neg c9] at H
        cases H
set_option maxRecDepth 20000 in
theorem zt_M_show {a b L N : Nat} {σ : zS} {τ : zT} {x1 : Int32} {x2 : Int32} {r : Int32 × zS} (H : zf_M_show N σ x1 x2 = some r) : zx_go 3 202 0 [some (.ref 82), some (.int x1), some (.int x2), none, none, none] [] ((119, a, b), zx_pk (zK L) 119, σ, τ, zR) = some (some (.int r.1), ((119, a, b), zx_pk (zK L) 119, r.2, τ, zR)) := by
  unfold zf_M_show at H
  rw [zs_aload_n (ls := [some (.ref 82), some (.int x1), some (.int x2), none, none, none]) zd_202_0 rfl]
  rw [zs_iconst (z := 0) zd_202_1 (by decide)]
  rw [zs_putI (n := 119) (K := zx_pk (zK L) 119) (c := 12) (k := 0) (q := 82) (x := 0) zd_202_2 rfl rfl (by decide +kernel) rfl (by decide)]
  rw [zs_aload_n (ls := [some (.ref 82), some (.int x1), some (.int x2), none, none, none]) zd_202_5 rfl]
  rw [zp_getZ (n := 119) (K := zx_pk (zK L) 119) (σ := (zx_up σ 82 0 0)) (c := 12) (k := 53) (q := 82) (v := (σ 82 53)) zd_202_6 rfl rfl rfl (by decide) (show ((zx_up σ 82 0 0) : zS) 82 53 = (σ 82 53) from ((zx_up_nj (by decide)).trans rfl))]
  by_cases c1 : ¬ (σ 82 53) = 0
  · rw [if_pos c1] at H
    rw [zp_if_ne_t (x := (σ 82 53)) (t := 15) zd_202_9 rfl c1]
    rw [zs_aload_n (ls := [some (.ref 82), some (.int x1), some (.int x2), none, none, none]) zd_202_15 rfl]
    rw [zs_iload_n (ls := [some (.ref 82), some (.int x1), some (.int x2), none, none, none]) zd_202_16 rfl]
    rw [zs_iload_n (ls := [some (.ref 82), some (.int x1), some (.int x2), none, none, none]) zd_202_17 rfl]
    obtain ⟨r2, hr2, H⟩ := Option.bind_eq_some_iff.mp H
    rw [zp_callVi (x := r2) (st := [.int x2, .int x1, .ref 82]) (as := [.ref 82, .int x1, .int x2]) (rest := []) (e := 2) zd_202_18 rfl (by decide +kernel) (by decide) rfl rfl (Nat.le_of_ble_eq_true rfl) (zx_rcb_ok rfl (show 82 < 119 by decide)) (Nat.le_of_ble_eq_true rfl) rfl (by decide) (zt_M_stateShown hr2)]
    rw [zs_istore_n (x := r2) (ls' := [some (.ref 82), some (.int x1), some (.int x2), some (.int r2), none, none]) zd_202_21 (Nat.le_of_ble_eq_true rfl) rfl]
    rw [zs_iload_n (ls := [some (.ref 82), some (.int x1), some (.int x2), some (.int r2), none, none]) zd_202_22 rfl]
    rw [zs_iconst (z := (-1)) zd_202_23 (by decide)]
    by_cases c3 : ¬ r2 = (-1)
    · rw [if_pos c3] at H
      rw [zp_icmp_ne_t (x := r2) (y := (-1)) (t := 30) zd_202_24 rfl c3]
      rw [zs_aload_n (ls := [some (.ref 82), some (.int x1), some (.int x2), some (.int r2), none, none]) zd_202_30 rfl]
      rw [zs_iconst (z := 0) zd_202_31 (by decide)]
      rw [zs_putI (n := 119) (K := zx_pk (zK L) 119) (c := 12) (k := 62) (q := 82) (x := 0) zd_202_32 rfl rfl (by decide +kernel) rfl (by decide)]
      rw [zs_iload_n (ls := [some (.ref 82), some (.int x1), some (.int x2), some (.int r2), none, none]) zd_202_35 rfl]
      rw [zs_istore (x := r2) (ls' := [some (.ref 82), some (.int x1), some (.int x2), some (.int r2), some (.int r2), none]) zd_202_36 (Nat.le_of_ble_eq_true rfl) rfl]
      exact zt_M_show_38  H
    · rw [if_neg c3] at H
      rw [zp_icmp_ne_f (x := r2) (y := (-1)) (t := 30) zd_202_24 rfl c3]
      rw [zs_bipush (z := (-102)) zd_202_27 (by decide)]
      have H := Option.some.inj H
      subst H
      exact zs_ireturn zd_202_29 (by decide +kernel)
  · rw [if_neg c1] at H
    rw [zp_if_ne_f (x := (σ 82 53)) (t := 15) zd_202_9 rfl c1]
    rw [zs_bipush (z := (-101)) zd_202_12 (by decide)]
    have H := Option.some.inj H
    subst H
    exact zs_ireturn zd_202_14 (by decide +kernel)
set_option maxRecDepth 20000 in
theorem zt_X_length {a b L : Nat} {σ : zS} {τ : zT} {r : Int32} (H : zf_X_length σ = some r) : zx_go 0 205 0 [some (.ref 2)] [] ((119, a, b), zx_pk (zK L) 119, σ, τ, zR) = some (some (.int r), ((119, a, b), zx_pk (zK L) 119, σ, τ, zR)) := by
  unfold zf_X_length at H
  rw [zs_aload_n (ls := [some (.ref 2)]) zd_205_0 rfl]
  rw [zp_getI (n := 119) (K := zx_pk (zK L) 119) (σ := σ) (c := 11) (k := 16) (q := 2) (v := (σ 2 16)) zd_205_1 rfl rfl rfl (by decide) rfl]
  rw [zs_iconst (z := (-1)) zd_205_4 (by decide)]
  by_cases c1 : ¬ (σ 2 16) = (-1)
  · rw [if_pos c1] at H
    rw [zp_icmp_ne_t (x := (σ 2 16)) (y := (-1)) (t := 13) zd_205_5 rfl c1]
    rw [zs_aload_n (ls := [some (.ref 2)]) zd_205_13 rfl]
    rw [zp_getI (n := 119) (K := zx_pk (zK L) 119) (σ := σ) (c := 11) (k := 16) (q := 2) (v := (σ 2 16)) zd_205_14 rfl rfl rfl (by decide) rfl]
    have H := Option.some.inj H
    subst H
    exact zs_ireturn zd_205_17 rfl
  · rw [if_neg c1] at H
    rw [zp_icmp_ne_f (x := (σ 2 16)) (y := (-1)) (t := 13) zd_205_5 rfl c1]
    rw [zs_bipush (z := (-101)) zd_205_8 (by decide)]
    rw [zs_goto (t := 17) zd_205_10 rfl]
    have H := Option.some.inj H
    subst H
    exact zs_ireturn zd_205_17 (by decide +kernel)
set_option maxRecDepth 20000 in
theorem zt_M_length {a b L : Nat} {σ : zS} {τ : zT} {r : Int32 × zS} (H : zf_M_length σ = some r) : zx_go 0 206 0 [some (.ref 82)] [] ((119, a, b), zx_pk (zK L) 119, σ, τ, zR) = some (some (.int r.1), ((119, a, b), zx_pk (zK L) 119, r.2, τ, zR)) := by
  unfold zf_M_length at H
  rw [zs_aload_n (ls := [some (.ref 82)]) zd_206_0 rfl]
  rw [zs_iconst (z := 0) zd_206_1 (by decide)]
  rw [zs_putI (n := 119) (K := zx_pk (zK L) 119) (c := 12) (k := 0) (q := 82) (x := 0) zd_206_2 rfl rfl (by decide +kernel) rfl (by decide)]
  rw [zs_aload_n (ls := [some (.ref 82)]) zd_206_5 rfl]
  rw [zp_getZ (n := 119) (K := zx_pk (zK L) 119) (σ := (zx_up σ 82 0 0)) (c := 12) (k := 53) (q := 82) (v := (σ 82 53)) zd_206_6 rfl rfl rfl (by decide) (show ((zx_up σ 82 0 0) : zS) 82 53 = (σ 82 53) from ((zx_up_nj (by decide)).trans rfl))]
  by_cases c1 : (σ 82 53) = 0
  · rw [if_pos c1] at H
    rw [zp_if_eq_t (x := (σ 82 53)) (t := 27) zd_206_9 rfl c1]
    rw [zs_bipush (z := (-101)) zd_206_27 (by decide)]
    have H := Option.some.inj H
    subst H
    exact zs_ireturn zd_206_29 (by decide +kernel)
  · rw [if_neg c1] at H
    rw [zp_if_eq_f (x := (σ 82 53)) (t := 27) zd_206_9 rfl c1]
    rw [zs_aload_n (ls := [some (.ref 82)]) zd_206_12 rfl]
    rw [zp_getI (n := 119) (K := zx_pk (zK L) 119) (σ := (zx_up σ 82 0 0)) (c := 12) (k := 62) (q := 82) (v := (σ 82 62)) zd_206_13 rfl rfl rfl (by decide) (show ((zx_up σ 82 0 0) : zS) 82 62 = (σ 82 62) from ((zx_up_nj (by decide)).trans rfl))]
    rw [zs_iconst (z := (-1)) zd_206_16 (by decide)]
    by_cases c2 : (σ 82 62) = (-1)
    · rw [if_pos c2] at H
      rw [zp_icmp_eq_t (x := (σ 82 62)) (y := (-1)) (t := 27) zd_206_17 rfl c2]
      rw [zs_bipush (z := (-101)) zd_206_27 (by decide)]
      have H := Option.some.inj H
      subst H
      exact zs_ireturn zd_206_29 (by decide +kernel)
    · rw [if_neg c2] at H
      rw [zp_icmp_eq_f (x := (σ 82 62)) (y := (-1)) (t := 27) zd_206_17 rfl c2]
      rw [zs_aload_n (ls := [some (.ref 82)]) zd_206_20 rfl]
      rw [zp_getI (n := 119) (K := zx_pk (zK L) 119) (σ := (zx_up σ 82 0 0)) (c := 12) (k := 62) (q := 82) (v := (σ 82 62)) zd_206_21 rfl rfl rfl (by decide) (show ((zx_up σ 82 0 0) : zS) 82 62 = (σ 82 62) from ((zx_up_nj (by decide)).trans rfl))]
      rw [zs_goto (t := 29) zd_206_24 rfl]
      have H := Option.some.inj H
      subst H
      exact zs_ireturn zd_206_29 rfl
set_option maxRecDepth 20000 in
theorem zt_X_who_30 {a b L : Nat} {σ : zS} {τ : zT} {o0 : Option Value} {o1 : Option Value} {r : Int32} (H : zb_X_who_30 σ = some r) : zx_go 0 207 30 [o0, o1] [] ((119, a, b), zx_pk (zK L) 119, σ, τ, zR) = some (some (.int r), ((119, a, b), zx_pk (zK L) 119, σ, τ, zR)) := by
  unfold zb_X_who_30 at H
  rw [zs_bipush (z := (-102)) zd_207_30 (by decide)]
  rw [zs_goto (t := 41) zd_207_32 rfl]
  have H := Option.some.inj H
  subst H
  exact zs_ireturn zd_207_41 (by decide +kernel)
set_option maxRecDepth 20000 in
theorem zt_X_who {a b L : Nat} {σ : zS} {τ : zT} {x1 : Int32} {r : Int32} (H : zf_X_who σ x1 = some r) : zx_go 0 207 0 [some (.ref 2), some (.int x1)] [] ((119, a, b), zx_pk (zK L) 119, σ, τ, zR) = some (some (.int r), ((119, a, b), zx_pk (zK L) 119, σ, τ, zR)) := by
  unfold zf_X_who at H
  rw [zs_aload_n (ls := [some (.ref 2), some (.int x1)]) zd_207_0 rfl]
  rw [zp_getI (n := 119) (K := zx_pk (zK L) 119) (σ := σ) (c := 11) (k := 16) (q := 2) (v := (σ 2 16)) zd_207_1 rfl rfl rfl (by decide) rfl]
  rw [zs_iconst (z := (-1)) zd_207_4 (by decide)]
  by_cases c1 : ¬ (σ 2 16) = (-1)
  · rw [if_pos c1] at H
    rw [zp_icmp_ne_t (x := (σ 2 16)) (y := (-1)) (t := 11) zd_207_5 rfl c1]
    rw [zs_iload_n (ls := [some (.ref 2), some (.int x1)]) zd_207_11 rfl]
    by_cases c2 : x1 < 0
    · rw [if_pos c2] at H
      rw [zp_if_lt_t (x := x1) (t := 30) zd_207_12 rfl c2]
      exact zt_X_who_30  H
    · rw [if_neg c2] at H
      rw [zp_if_lt_f (x := x1) (t := 30) zd_207_12 rfl c2]
      rw [zs_iload_n (ls := [some (.ref 2), some (.int x1)]) zd_207_15 rfl]
      rw [zs_aload_n (ls := [some (.ref 2), some (.int x1)]) zd_207_16 rfl]
      rw [zp_getI (n := 119) (K := zx_pk (zK L) 119) (σ := σ) (c := 11) (k := 16) (q := 2) (v := (σ 2 16)) zd_207_17 rfl rfl rfl (by decide) rfl]
      by_cases c3 : (σ 2 16) ≤ x1
      · rw [if_pos c3] at H
        rw [zp_icmp_ge_t (x := x1) (y := (σ 2 16)) (t := 30) zd_207_20 rfl c3]
        exact zt_X_who_30  H
      · rw [if_neg c3] at H
        rw [zp_icmp_ge_f (x := x1) (y := (σ 2 16)) (t := 30) zd_207_20 rfl c3]
        rw [zs_iload_n (ls := [some (.ref 2), some (.int x1)]) zd_207_23 rfl]
        rw [zs_sipush (z := 4000) zd_207_24 (by decide)]
        by_cases c4 : x1 < 4000
        · rw [if_pos c4] at H
          rw [zp_icmp_lt_t (x := x1) (y := 4000) (t := 35) zd_207_27 rfl c4]
          rw [zs_aload_n (ls := [some (.ref 2), some (.int x1)]) zd_207_35 rfl]
          rw [zs_getR (n := 119) (K := zx_pk (zK L) 119) (ρ := zR) (c := 11) (k := 10) (q := 2) (p := 81) zd_207_36 rfl rfl rfl (by decide) rfl]
          rw [zs_iload_n (ls := [some (.ref 2), some (.int x1)]) zd_207_39 rfl]
          by_cases c5 : 0 ≤ x1 ∧ x1 < 4000
          · rw [if_pos c5] at H
            rw [zp_iaload (n := 119) (K := zx_pk (zK L) 119) (σ := σ) (q := 81) (m := 4000) (i := x1) (k := x1.toNatClampNeg) (v := (σ 81 x1.toNatClampNeg)) zd_207_40 rfl (by decide) (zJ_in c5 rfl) rfl rfl]
            have H := Option.some.inj H
            subst H
            exact zs_ireturn zd_207_41 rfl
          · rw [if_neg c5] at H
            cases H
        · rw [if_neg c4] at H
          rw [zp_icmp_lt_f (x := x1) (y := 4000) (t := 35) zd_207_27 rfl c4]
          exact zt_X_who_30  H
  · rw [if_neg c1] at H
    rw [zp_icmp_ne_f (x := (σ 2 16)) (y := (-1)) (t := 11) zd_207_5 rfl c1]
    rw [zs_bipush (z := (-101)) zd_207_8 (by decide)]
    have H := Option.some.inj H
    subst H
    exact zs_ireturn zd_207_10 (by decide +kernel)
set_option maxRecDepth 20000 in
theorem zt_M_who {a b L : Nat} {σ : zS} {τ : zT} {x1 : Int32} {r : Int32 × zS} (H : zf_M_who σ x1 = some r) : zx_go 1 208 0 [some (.ref 82), some (.int x1)] [] ((119, a, b), zx_pk (zK L) 119, σ, τ, zR) = some (some (.int r.1), ((119, a, b), zx_pk (zK L) 119, r.2, τ, zR)) := by
  unfold zf_M_who at H
  rw [zs_aload_n (ls := [some (.ref 82), some (.int x1)]) zd_208_0 rfl]
  rw [zs_iconst (z := 0) zd_208_1 (by decide)]
  rw [zs_putI (n := 119) (K := zx_pk (zK L) 119) (c := 12) (k := 0) (q := 82) (x := 0) zd_208_2 rfl rfl (by decide +kernel) rfl (by decide)]
  rw [zs_aload_n (ls := [some (.ref 82), some (.int x1)]) zd_208_5 rfl]
  rw [zp_getZ (n := 119) (K := zx_pk (zK L) 119) (σ := (zx_up σ 82 0 0)) (c := 12) (k := 53) (q := 82) (v := (σ 82 53)) zd_208_6 rfl rfl rfl (by decide) (show ((zx_up σ 82 0 0) : zS) 82 53 = (σ 82 53) from ((zx_up_nj (by decide)).trans rfl))]
  by_cases c1 : (σ 82 53) = 0
  · rw [if_pos c1] at H
    rw [zp_if_eq_t (x := (σ 82 53)) (t := 20) zd_208_9 rfl c1]
    rw [zs_bipush (z := (-101)) zd_208_20 (by decide)]
    have H := Option.some.inj H
    subst H
    exact zs_ireturn zd_208_22 (by decide +kernel)
  · rw [if_neg c1] at H
    rw [zp_if_eq_f (x := (σ 82 53)) (t := 20) zd_208_9 rfl c1]
    rw [zs_aload_n (ls := [some (.ref 82), some (.int x1)]) zd_208_12 rfl]
    rw [zp_getI (n := 119) (K := zx_pk (zK L) 119) (σ := (zx_up σ 82 0 0)) (c := 12) (k := 62) (q := 82) (v := (σ 82 62)) zd_208_13 rfl rfl rfl (by decide) (show ((zx_up σ 82 0 0) : zS) 82 62 = (σ 82 62) from ((zx_up_nj (by decide)).trans rfl))]
    rw [zs_iconst (z := (-1)) zd_208_16 (by decide)]
    by_cases c2 : ¬ (σ 82 62) = (-1)
    · rw [if_pos c2] at H
      rw [zp_icmp_ne_t (x := (σ 82 62)) (y := (-1)) (t := 23) zd_208_17 rfl c2]
      rw [zs_iload_n (ls := [some (.ref 82), some (.int x1)]) zd_208_23 rfl]
      rw [zs_iconst (z := 0) zd_208_24 (by decide)]
      rw [zs_aload_n (ls := [some (.ref 82), some (.int x1)]) zd_208_25 rfl]
      rw [zp_getI (n := 119) (K := zx_pk (zK L) 119) (σ := (zx_up σ 82 0 0)) (c := 12) (k := 62) (q := 82) (v := (σ 82 62)) zd_208_26 rfl rfl rfl (by decide) (show ((zx_up σ 82 0 0) : zS) 82 62 = (σ 82 62) from ((zx_up_nj (by decide)).trans rfl))]
      rw [zs_iconst (z := 1) zd_208_29 (by decide)]
      rw [zp_isub (x := (σ 82 62)) (y := 1) (z := ((σ 82 62) - 1)) zd_208_30 rfl]
      obtain ⟨r3, hr3, H⟩ := Option.bind_eq_some_iff.mp H
      rw [zp_callSi (x := r3) (st := [.int ((σ 82 62) - 1), .int 0, .int x1]) (as := [.int x1, .int 0, .int ((σ 82 62) - 1)]) (rest := []) (e := 0) zd_208_31 rfl (by decide +kernel) (by decide) rfl rfl (Nat.le_of_ble_eq_true rfl) rfl (Nat.le_of_ble_eq_true rfl) rfl (by decide) (zt_M_in hr3)]
      by_cases c4 : r3 = 0
      · rw [if_pos c4] at H
        rw [zp_if_eq_t (x := r3) (t := 46) zd_208_34 rfl c4]
        rw [zs_bipush (z := (-102)) zd_208_46 (by decide)]
        have H := Option.some.inj H
        subst H
        exact zs_ireturn zd_208_48 (by decide +kernel)
      · rw [if_neg c4] at H
        rw [zp_if_eq_f (x := r3) (t := 46) zd_208_34 rfl c4]
        rw [zs_aload_n (ls := [some (.ref 82), some (.int x1)]) zd_208_37 rfl]
        rw [zs_getR (n := 119) (K := zx_pk (zK L) 119) (ρ := zR) (c := 12) (k := 61) (q := 82) (p := 116) zd_208_38 rfl rfl rfl (by decide) rfl]
        rw [zs_iload_n (ls := [some (.ref 82), some (.int x1)]) zd_208_41 rfl]
        by_cases c5 : 0 ≤ x1 ∧ x1 < 4000
        · rw [if_pos c5] at H
          rw [zp_iaload (n := 119) (K := zx_pk (zK L) 119) (σ := (zx_up σ 82 0 0)) (q := 116) (m := 4000) (i := x1) (k := x1.toNatClampNeg) (v := (σ 116 x1.toNatClampNeg)) zd_208_42 rfl (by decide) (zJ_in c5 rfl) rfl (show ((zx_up σ 82 0 0) : zS) 116 x1.toNatClampNeg = (σ 116 x1.toNatClampNeg) from ((zx_up_ne (by decide)).trans rfl))]
          rw [zs_goto (t := 48) zd_208_43 rfl]
          have H := Option.some.inj H
          subst H
          exact zs_ireturn zd_208_48 rfl
        · rw [if_neg c5] at H
          cases H
    · rw [if_neg c2] at H
      rw [zp_icmp_ne_f (x := (σ 82 62)) (y := (-1)) (t := 23) zd_208_17 rfl c2]
      rw [zs_bipush (z := (-101)) zd_208_20 (by decide)]
      have H := Option.some.inj H
      subst H
      exact zs_ireturn zd_208_22 (by decide +kernel)
set_option maxRecDepth 20000 in
theorem zt_Numbers_get_c6_21 {a b L : Nat} {σ : zS} {τ : zT} {o0 : Option Value} {o1 : Option Value} {r : Int32} (H : zb_Numbers_get_c6_21 σ = some r) : zx_go 0 172 21 [o0, o1] [] ((119, a, b), zx_pk (zK L) 119, σ, τ, zR) = some (some (.int r), ((119, a, b), zx_pk (zK L) 119, σ, τ, zR)) := by
  unfold zb_Numbers_get_c6_21 at H
  rw [zs_iconst (z := (-1)) zd_172_21 (by decide)]
  rw [zs_goto (t := 31) zd_172_22 rfl]
  have H := Option.some.inj H
  subst H
  exact zs_ireturn zd_172_31 (by decide +kernel)
set_option maxRecDepth 20000 in
theorem zt_Numbers_get_c6 {a b L : Nat} {σ : zS} {τ : zT} {x1 : Int32} {r : Int32} (H : zf_Numbers_get_c6 σ x1 = some r) : zx_go 0 172 0 [some (.ref 53), some (.int x1)] [] ((119, a, b), zx_pk (zK L) 119, σ, τ, zR) = some (some (.int r), ((119, a, b), zx_pk (zK L) 119, σ, τ, zR)) := by
  unfold zf_Numbers_get_c6 at H
  rw [zs_iload_n (ls := [some (.ref 53), some (.int x1)]) zd_172_0 rfl]
  by_cases c1 : x1 < 0
  · rw [if_pos c1] at H
    rw [zp_if_lt_t (x := x1) (t := 21) zd_172_1 rfl c1]
    exact zt_Numbers_get_c6_21  H
  · rw [if_neg c1] at H
    rw [zp_if_lt_f (x := x1) (t := 21) zd_172_1 rfl c1]
    rw [zs_iload_n (ls := [some (.ref 53), some (.int x1)]) zd_172_4 rfl]
    rw [zs_aload_n (ls := [some (.ref 53), some (.int x1)]) zd_172_5 rfl]
    rw [zp_getI (n := 119) (K := zx_pk (zK L) 119) (σ := σ) (c := 4) (k := 1) (q := 53) (v := (σ 53 1)) zd_172_6 rfl rfl rfl (by decide) rfl]
    by_cases c2 : (σ 53 1) ≤ x1
    · rw [if_pos c2] at H
      rw [zp_icmp_ge_t (x := x1) (y := (σ 53 1)) (t := 21) zd_172_9 rfl c2]
      exact zt_Numbers_get_c6_21  H
    · rw [if_neg c2] at H
      rw [zp_icmp_ge_f (x := x1) (y := (σ 53 1)) (t := 21) zd_172_9 rfl c2]
      rw [zs_iload_n (ls := [some (.ref 53), some (.int x1)]) zd_172_12 rfl]
      rw [zs_aload_n (ls := [some (.ref 53), some (.int x1)]) zd_172_13 rfl]
      rw [zs_getR (n := 119) (K := zx_pk (zK L) 119) (ρ := zR) (c := 4) (k := 0) (q := 53) (p := 54) zd_172_14 rfl rfl rfl (by decide) rfl]
      rw [zs_arraylength (n := 119) (K := zx_pk (zK L) 119) (q := 54) (m := 3456) (z := 3456) zd_172_17 rfl (by decide) (by decide)]
      by_cases c3 : x1 < 3456
      · rw [if_pos c3] at H
        rw [zp_icmp_lt_t (x := x1) (y := 3456) (t := 25) zd_172_18 rfl c3]
        rw [zs_aload_n (ls := [some (.ref 53), some (.int x1)]) zd_172_25 rfl]
        rw [zs_getR (n := 119) (K := zx_pk (zK L) 119) (ρ := zR) (c := 4) (k := 0) (q := 53) (p := 54) zd_172_26 rfl rfl rfl (by decide) rfl]
        rw [zs_iload_n (ls := [some (.ref 53), some (.int x1)]) zd_172_29 rfl]
        by_cases c4 : 0 ≤ x1 ∧ x1 < 3456
        · rw [if_pos c4] at H
          rw [zp_iaload (n := 119) (K := zx_pk (zK L) 119) (σ := σ) (q := 54) (m := 3456) (i := x1) (k := x1.toNatClampNeg) (v := (σ 54 x1.toNatClampNeg)) zd_172_30 rfl (by decide) (zJ_in c4 rfl) rfl rfl]
          have H := Option.some.inj H
          subst H
          exact zs_ireturn zd_172_31 rfl
        · rw [if_neg c4] at H
          cases H
      · rw [if_neg c3] at H
        rw [zp_icmp_lt_f (x := x1) (y := 3456) (t := 25) zd_172_18 rfl c3]
        exact zt_Numbers_get_c6_21  H
set_option maxRecDepth 20000 in
theorem zt_Program_partOfPair {a b L : Nat} {σ : zS} {τ : zT} {x1 : Int32} {x2 : Int32} {r : Int32} (H : zf_Program_partOfPair σ x1 x2 = some r) : zx_go 0 210 0 [some (.ref 4), some (.int x1), some (.int x2), none, none] [] ((119, a, b), zx_pk (zK L) 119, σ, τ, zR) = some (some (.int r), ((119, a, b), zx_pk (zK L) 119, σ, τ, zR)) := by
  unfold zf_Program_partOfPair at H
  rw [zs_iload_n (ls := [some (.ref 4), some (.int x1), some (.int x2), none, none]) zd_210_0 rfl]
  rw [zs_bipush (z := 96) zd_210_1 (by decide)]
  rw [zp_idiv (x := x1) (y := 96) (z := (x1 / 96)) zd_210_3 (by decide) rfl]
  rw [zs_istore_n (x := (x1 / 96)) (ls' := [some (.ref 4), some (.int x1), some (.int x2), some (.int (x1 / 96)), none]) zd_210_4 (Nat.le_of_ble_eq_true rfl) rfl]
  rw [zs_iload_n (ls := [some (.ref 4), some (.int x1), some (.int x2), some (.int (x1 / 96)), none]) zd_210_5 rfl]
  rw [zs_bipush (z := 96) zd_210_6 (by decide)]
  rw [zp_irem (x := x1) (y := 96) (z := (zJ_rem x1 96)) zd_210_8 (by decide) rfl]
  rw [zs_istore (x := (zJ_rem x1 96)) (ls' := [some (.ref 4), some (.int x1), some (.int x2), some (.int (x1 / 96)), some (.int (zJ_rem x1 96))]) zd_210_9 (Nat.le_of_ble_eq_true rfl) rfl]
  rw [zs_iload_n (ls := [some (.ref 4), some (.int x1), some (.int x2), some (.int (x1 / 96)), some (.int (zJ_rem x1 96))]) zd_210_11 rfl]
  by_cases c1 : x1 < 0
  · rw [if_pos c1] at H
    rw [zp_if_lt_t (x := x1) (t := 21) zd_210_12 rfl c1]
    rw [zs_bipush (z := (-102)) zd_210_21 (by decide)]
    have H := Option.some.inj H
    subst H
    exact zs_ireturn zd_210_23 (by decide +kernel)
  · rw [if_neg c1] at H
    rw [zp_if_lt_f (x := x1) (t := 21) zd_210_12 rfl c1]
    rw [zs_iload_n (ls := [some (.ref 4), some (.int x1), some (.int x2), some (.int (x1 / 96)), some (.int (zJ_rem x1 96))]) zd_210_15 rfl]
    rw [zs_bipush (z := 96) zd_210_16 (by decide)]
    by_cases c2 : (x1 / 96) < 96
    · rw [if_pos c2] at H
      rw [zp_icmp_lt_t (x := (x1 / 96)) (y := 96) (t := 24) zd_210_18 rfl c2]
      rw [zs_iload_n (ls := [some (.ref 4), some (.int x1), some (.int x2), some (.int (x1 / 96)), some (.int (zJ_rem x1 96))]) zd_210_24 rfl]
      by_cases c3 : x2 = 0
      · rw [if_pos c3] at H
        rw [zs_table (x := x2) (off := 35) (t := 60) zd_210_25 (by rw [c3]; decide) rfl]
        rw [zs_iload_n (ls := [some (.ref 4), some (.int x1), some (.int x2), some (.int (x1 / 96)), some (.int (zJ_rem x1 96))]) zd_210_60 rfl]
        rw [zs_bipush (z := 24) zd_210_61 (by decide)]
        rw [zp_idiv (x := (x1 / 96)) (y := 24) (z := ((x1 / 96) / 24)) zd_210_63 (by decide) rfl]
        have H := Option.some.inj H
        subst H
        exact zs_ireturn zd_210_64 rfl
      · rw [if_neg c3] at H
        by_cases c4 : x2 = 1
        · rw [if_pos c4] at H
          rw [zs_table (x := x2) (off := 40) (t := 65) zd_210_25 (by rw [c4]; decide) rfl]
          rw [zs_iload_n (ls := [some (.ref 4), some (.int x1), some (.int x2), some (.int (x1 / 96)), some (.int (zJ_rem x1 96))]) zd_210_65 rfl]
          rw [zs_bipush (z := 24) zd_210_66 (by decide)]
          rw [zp_irem (x := (x1 / 96)) (y := 24) (z := (zJ_rem (x1 / 96) 24)) zd_210_68 (by decide) rfl]
          have H := Option.some.inj H
          subst H
          exact zs_ireturn zd_210_69 rfl
        · rw [if_neg c4] at H
          by_cases c5 : x2 = 2
          · rw [if_pos c5] at H
            rw [zs_table (x := x2) (off := 45) (t := 70) zd_210_25 (by rw [c5]; decide) rfl]
            rw [zs_iload (ls := [some (.ref 4), some (.int x1), some (.int x2), some (.int (x1 / 96)), some (.int (zJ_rem x1 96))]) zd_210_70 rfl]
            rw [zs_bipush (z := 24) zd_210_72 (by decide)]
            rw [zp_idiv (x := (zJ_rem x1 96)) (y := 24) (z := ((zJ_rem x1 96) / 24)) zd_210_74 (by decide) rfl]
            have H := Option.some.inj H
            subst H
            exact zs_ireturn zd_210_75 rfl
          · rw [if_neg c5] at H
            by_cases c6 : x2 = 3
            · rw [if_pos c6] at H
              rw [zs_table (x := x2) (off := 51) (t := 76) zd_210_25 (by rw [c6]; decide) rfl]
              rw [zs_iload (ls := [some (.ref 4), some (.int x1), some (.int x2), some (.int (x1 / 96)), some (.int (zJ_rem x1 96))]) zd_210_76 rfl]
              rw [zs_bipush (z := 24) zd_210_78 (by decide)]
              rw [zp_irem (x := (zJ_rem x1 96)) (y := 24) (z := (zJ_rem (zJ_rem x1 96) 24)) zd_210_80 (by decide) rfl]
              have H := Option.some.inj H
              subst H
              exact zs_ireturn zd_210_81 rfl
            · rw [if_neg c6] at H
              by_cases c7 : x2 = 4
              · rw [if_pos c7] at H
                rw [zs_table (x := x2) (off := 57) (t := 82) zd_210_25 (by rw [c7]; decide) rfl]
                rw [zs_aload_n (ls := [some (.ref 4), some (.int x1), some (.int x2), some (.int (x1 / 96)), some (.int (zJ_rem x1 96))]) zd_210_82 rfl]
                rw [zs_getR (n := 119) (K := zx_pk (zK L) 119) (ρ := zR) (c := 6) (k := 10) (q := 4) (p := 8) zd_210_83 rfl rfl rfl (by decide) rfl]
                rw [zs_iload_n (ls := [some (.ref 4), some (.int x1), some (.int x2), some (.int (x1 / 96)), some (.int (zJ_rem x1 96))]) zd_210_86 rfl]
                by_cases c8 : 0 ≤ (x1 / 96) ∧ (x1 / 96) < 97
                · rw [if_pos c8] at H
                  rw [zp_iaload (n := 119) (K := zx_pk (zK L) 119) (σ := σ) (q := 8) (m := 97) (i := (x1 / 96)) (k := (x1 / 96).toNatClampNeg) (v := (σ 8 (x1 / 96).toNatClampNeg)) zd_210_87 rfl (by decide) (zJ_in c8 rfl) rfl rfl]
                  have H := Option.some.inj H
                  subst H
                  exact zs_ireturn zd_210_88 rfl
                · rw [if_neg c8] at H
                  cases H
              · rw [if_neg c7] at H
                rw [zs_table (x := x2) (off := 64) (t := 89) zd_210_25 (if_pos (by have e : ∀ z : Int32, ¬ x2 = z → ¬ (x2 : Int32).toInt = z.toInt := fun z h q => h (Int32.toInt_inj.mp q); have q0 := e 0 c3; have q1 := e 1 c4; have q2 := e 2 c5; have q3 := e 3 c6; have q4 := e 4 c7; simp only [show (0 : Int32).toInt = 0 from rfl, show (1 : Int32).toInt = 1 from rfl, show (2 : Int32).toInt = 2 from rfl, show (3 : Int32).toInt = 3 from rfl, show (4 : Int32).toInt = 4 from rfl] at q0 q1 q2 q3 q4; omega)) rfl]
                rw [zs_bipush (z := (-102)) zd_210_89 (by decide)]
                have H := Option.some.inj H
                subst H
                exact zs_ireturn zd_210_91 (by decide +kernel)
    · rw [if_neg c2] at H
      rw [zp_icmp_lt_f (x := (x1 / 96)) (y := 96) (t := 24) zd_210_18 rfl c2]
      rw [zs_bipush (z := (-102)) zd_210_21 (by decide)]
      have H := Option.some.inj H
      subst H
      exact zs_ireturn zd_210_23 (by decide +kernel)
set_option maxRecDepth 20000 in
theorem zt_X_race {a b L : Nat} {σ : zS} {τ : zT} {x1 : Int32} {x2 : Int32} {r : Int32} (H : zf_X_race σ x1 x2 = some r) : zx_go 1 209 0 [some (.ref 2), some (.int x1), some (.int x2)] [] ((119, a, b), zx_pk (zK L) 119, σ, τ, zR) = some (some (.int r), ((119, a, b), zx_pk (zK L) 119, σ, τ, zR)) := by
  unfold zf_X_race at H
  rw [zs_aload_n (ls := [some (.ref 2), some (.int x1), some (.int x2)]) zd_209_0 rfl]
  rw [zp_getZ (n := 119) (K := zx_pk (zK L) 119) (σ := σ) (c := 11) (k := 15) (q := 2) (v := (σ 2 15)) zd_209_1 rfl rfl rfl (by decide) rfl]
  by_cases c1 : ¬ (σ 2 15) = 0
  · rw [if_pos c1] at H
    rw [zp_if_ne_t (x := (σ 2 15)) (t := 10) zd_209_4 rfl c1]
    rw [zs_aload_n (ls := [some (.ref 2), some (.int x1), some (.int x2)]) zd_209_10 rfl]
    rw [zs_getR (n := 119) (K := zx_pk (zK L) 119) (ρ := zR) (c := 11) (k := 1) (q := 2) (p := 4) zd_209_11 rfl rfl rfl (by decide) rfl]
    rw [zs_aload_n (ls := [some (.ref 2), some (.int x1), some (.int x2)]) zd_209_14 rfl]
    rw [zs_getR (n := 119) (K := zx_pk (zK L) 119) (ρ := zR) (c := 11) (k := 5) (q := 2) (p := 46) zd_209_15 rfl rfl rfl (by decide) rfl]
    rw [zs_getR (n := 119) (K := zx_pk (zK L) 119) (ρ := zR) (c := 0) (k := 5) (q := 46) (p := 53) zd_209_18 rfl rfl rfl (by decide) rfl]
    rw [zs_iload_n (ls := [some (.ref 2), some (.int x1), some (.int x2)]) zd_209_21 rfl]
    obtain ⟨r2, hr2, H⟩ := Option.bind_eq_some_iff.mp H
    rw [zp_callVi (x := r2) (st := [.int x1, .ref 53, .ref 4]) (as := [.ref 53, .int x1]) (rest := [.ref 4]) (e := 0) zd_209_22 rfl (by decide +kernel) (by decide) rfl rfl (Nat.le_of_ble_eq_true rfl) (zx_rcb_ok rfl (show 53 < 119 by decide)) (Nat.le_of_ble_eq_true rfl) rfl (by decide) (zt_Numbers_get_c6 hr2)]
    rw [zs_iload_n (ls := [some (.ref 2), some (.int x1), some (.int x2)]) zd_209_25 rfl]
    obtain ⟨r3, hr3, H⟩ := Option.bind_eq_some_iff.mp H
    rw [zp_callVi (x := r3) (st := [.int x2, .int r2, .ref 4]) (as := [.ref 4, .int r2, .int x2]) (rest := []) (e := 0) zd_209_26 rfl (by decide +kernel) (by decide) rfl rfl (Nat.le_of_ble_eq_true rfl) (zx_rcb_ok rfl (show 4 < 119 by decide)) (Nat.le_of_ble_eq_true rfl) rfl (by decide) (zt_Program_partOfPair hr3)]
    have H := Option.some.inj H
    subst H
    exact zs_ireturn zd_209_29 rfl
  · rw [if_neg c1] at H
    rw [zp_if_ne_f (x := (σ 2 15)) (t := 10) zd_209_4 rfl c1]
    rw [zs_bipush (z := (-101)) zd_209_7 (by decide)]
    have H := Option.some.inj H
    subst H
    exact zs_ireturn zd_209_9 (by decide +kernel)
set_option maxRecDepth 20000 in
theorem zt_M_ofPair {a b L : Nat} {σ : zS} {τ : zT} {x1 : Int32} {x2 : Int32} {r : Int32} (H : zf_M_ofPair σ x1 x2 = some r) : zx_go 0 212 0 [some (.ref 82), some (.int x1), some (.int x2), none, none] [] ((119, a, b), zx_pk (zK L) 119, σ, τ, zR) = some (some (.int r), ((119, a, b), zx_pk (zK L) 119, σ, τ, zR)) := by
  unfold zf_M_ofPair at H
  rw [zs_iload_n (ls := [some (.ref 82), some (.int x1), some (.int x2), none, none]) zd_212_0 rfl]
  rw [zs_bipush (z := 96) zd_212_1 (by decide)]
  rw [zp_idiv (x := x1) (y := 96) (z := (x1 / 96)) zd_212_3 (by decide) rfl]
  rw [zs_istore_n (x := (x1 / 96)) (ls' := [some (.ref 82), some (.int x1), some (.int x2), some (.int (x1 / 96)), none]) zd_212_4 (Nat.le_of_ble_eq_true rfl) rfl]
  rw [zs_iload_n (ls := [some (.ref 82), some (.int x1), some (.int x2), some (.int (x1 / 96)), none]) zd_212_5 rfl]
  rw [zs_bipush (z := 96) zd_212_6 (by decide)]
  rw [zp_irem (x := x1) (y := 96) (z := (zJ_rem x1 96)) zd_212_8 (by decide) rfl]
  rw [zs_istore (x := (zJ_rem x1 96)) (ls' := [some (.ref 82), some (.int x1), some (.int x2), some (.int (x1 / 96)), some (.int (zJ_rem x1 96))]) zd_212_9 (Nat.le_of_ble_eq_true rfl) rfl]
  rw [zs_iload_n (ls := [some (.ref 82), some (.int x1), some (.int x2), some (.int (x1 / 96)), some (.int (zJ_rem x1 96))]) zd_212_11 rfl]
  by_cases c1 : x2 = 0
  · rw [if_pos c1] at H
    rw [zs_table (x := x2) (off := 36) (t := 48) zd_212_12 (by rw [c1]; decide) rfl]
    rw [zs_iload_n (ls := [some (.ref 82), some (.int x1), some (.int x2), some (.int (x1 / 96)), some (.int (zJ_rem x1 96))]) zd_212_48 rfl]
    rw [zs_bipush (z := 24) zd_212_49 (by decide)]
    rw [zp_idiv (x := (x1 / 96)) (y := 24) (z := ((x1 / 96) / 24)) zd_212_51 (by decide) rfl]
    have H := Option.some.inj H
    subst H
    exact zs_ireturn zd_212_52 rfl
  · rw [if_neg c1] at H
    by_cases c2 : x2 = 1
    · rw [if_pos c2] at H
      rw [zs_table (x := x2) (off := 41) (t := 53) zd_212_12 (by rw [c2]; decide) rfl]
      rw [zs_iload_n (ls := [some (.ref 82), some (.int x1), some (.int x2), some (.int (x1 / 96)), some (.int (zJ_rem x1 96))]) zd_212_53 rfl]
      rw [zs_bipush (z := 24) zd_212_54 (by decide)]
      rw [zp_irem (x := (x1 / 96)) (y := 24) (z := (zJ_rem (x1 / 96) 24)) zd_212_56 (by decide) rfl]
      have H := Option.some.inj H
      subst H
      exact zs_ireturn zd_212_57 rfl
    · rw [if_neg c2] at H
      by_cases c3 : x2 = 2
      · rw [if_pos c3] at H
        rw [zs_table (x := x2) (off := 46) (t := 58) zd_212_12 (by rw [c3]; decide) rfl]
        rw [zs_iload (ls := [some (.ref 82), some (.int x1), some (.int x2), some (.int (x1 / 96)), some (.int (zJ_rem x1 96))]) zd_212_58 rfl]
        rw [zs_bipush (z := 24) zd_212_60 (by decide)]
        rw [zp_idiv (x := (zJ_rem x1 96)) (y := 24) (z := ((zJ_rem x1 96) / 24)) zd_212_62 (by decide) rfl]
        have H := Option.some.inj H
        subst H
        exact zs_ireturn zd_212_63 rfl
      · rw [if_neg c3] at H
        by_cases c4 : x2 = 3
        · rw [if_pos c4] at H
          rw [zs_table (x := x2) (off := 52) (t := 64) zd_212_12 (by rw [c4]; decide) rfl]
          rw [zs_iload (ls := [some (.ref 82), some (.int x1), some (.int x2), some (.int (x1 / 96)), some (.int (zJ_rem x1 96))]) zd_212_64 rfl]
          rw [zs_bipush (z := 24) zd_212_66 (by decide)]
          rw [zp_irem (x := (zJ_rem x1 96)) (y := 24) (z := (zJ_rem (zJ_rem x1 96) 24)) zd_212_68 (by decide) rfl]
          have H := Option.some.inj H
          subst H
          exact zs_ireturn zd_212_69 rfl
        · rw [if_neg c4] at H
          by_cases c5 : x2 = 4
          · rw [if_pos c5] at H
            rw [zs_table (x := x2) (off := 58) (t := 70) zd_212_12 (by rw [c5]; decide) rfl]
            rw [zs_aload_n (ls := [some (.ref 82), some (.int x1), some (.int x2), some (.int (x1 / 96)), some (.int (zJ_rem x1 96))]) zd_212_70 rfl]
            rw [zs_getR (n := 119) (K := zx_pk (zK L) 119) (ρ := zR) (c := 12) (k := 28) (q := 82) (p := 93) zd_212_71 rfl rfl rfl (by decide) rfl]
            rw [zs_iload_n (ls := [some (.ref 82), some (.int x1), some (.int x2), some (.int (x1 / 96)), some (.int (zJ_rem x1 96))]) zd_212_74 rfl]
            by_cases c6 : 0 ≤ (x1 / 96) ∧ (x1 / 96) < 96
            · rw [if_pos c6] at H
              rw [zp_iaload (n := 119) (K := zx_pk (zK L) 119) (σ := σ) (q := 93) (m := 96) (i := (x1 / 96)) (k := (x1 / 96).toNatClampNeg) (v := (σ 93 (x1 / 96).toNatClampNeg)) zd_212_75 rfl (by decide) (zJ_in c6 rfl) rfl rfl]
              have H := Option.some.inj H
              subst H
              exact zs_ireturn zd_212_76 rfl
            · rw [if_neg c6] at H
              cases H
          · rw [if_neg c5] at H
            rw [zs_table (x := x2) (off := 65) (t := 77) zd_212_12 (if_pos (by have e : ∀ z : Int32, ¬ x2 = z → ¬ (x2 : Int32).toInt = z.toInt := fun z h q => h (Int32.toInt_inj.mp q); have q0 := e 0 c1; have q1 := e 1 c2; have q2 := e 2 c3; have q3 := e 3 c4; have q4 := e 4 c5; simp only [show (0 : Int32).toInt = 0 from rfl, show (1 : Int32).toInt = 1 from rfl, show (2 : Int32).toInt = 2 from rfl, show (3 : Int32).toInt = 3 from rfl, show (4 : Int32).toInt = 4 from rfl] at q0 q1 q2 q3 q4; omega)) rfl]
            rw [zs_bipush (z := (-102)) zd_212_77 (by decide)]
            have H := Option.some.inj H
            subst H
            exact zs_ireturn zd_212_79 (by decide +kernel)
set_option maxRecDepth 20000 in
theorem zt_M_race {a b L N : Nat} {σ : zS} {τ : zT} {x1 : Int32} {x2 : Int32} {r : Int32 × zS} (H : zf_M_race N σ x1 x2 = some r) : zx_go 1 211 0 [some (.ref 82), some (.int x1), some (.int x2), none] [] ((119, a, b), zx_pk (zK L) 119, σ, τ, zR) = some (some (.int r.1), ((119, a, b), zx_pk (zK L) 119, r.2, τ, zR)) := by
  unfold zf_M_race at H
  rw [zs_aload_n (ls := [some (.ref 82), some (.int x1), some (.int x2), none]) zd_211_0 rfl]
  rw [zs_iconst (z := 0) zd_211_1 (by decide)]
  rw [zs_putI (n := 119) (K := zx_pk (zK L) 119) (c := 12) (k := 0) (q := 82) (x := 0) zd_211_2 rfl rfl (by decide +kernel) rfl (by decide)]
  rw [zs_aload_n (ls := [some (.ref 82), some (.int x1), some (.int x2), none]) zd_211_5 rfl]
  rw [zp_getZ (n := 119) (K := zx_pk (zK L) 119) (σ := (zx_up σ 82 0 0)) (c := 12) (k := 53) (q := 82) (v := (σ 82 53)) zd_211_6 rfl rfl rfl (by decide) (show ((zx_up σ 82 0 0) : zS) 82 53 = (σ 82 53) from ((zx_up_nj (by decide)).trans rfl))]
  by_cases c1 : ¬ (σ 82 53) = 0
  · rw [if_pos c1] at H
    rw [zp_if_ne_t (x := (σ 82 53)) (t := 15) zd_211_9 rfl c1]
    rw [zs_aload_n (ls := [some (.ref 82), some (.int x1), some (.int x2), none]) zd_211_15 rfl]
    rw [zs_iload_n (ls := [some (.ref 82), some (.int x1), some (.int x2), none]) zd_211_16 rfl]
    obtain ⟨r2, hr2, H⟩ := Option.bind_eq_some_iff.mp H
    rw [zp_callVi (x := r2) (st := [.int x1, .ref 82]) (as := [.ref 82, .int x1]) (rest := []) (e := 0) zd_211_17 rfl (by decide +kernel) (by decide) rfl rfl (Nat.le_of_ble_eq_true rfl) (zx_rcb_ok rfl (show 82 < 119 by decide)) (Nat.le_of_ble_eq_true rfl) rfl (by decide) (zt_M_pairOf hr2)]
    rw [zs_istore_n (x := r2) (ls' := [some (.ref 82), some (.int x1), some (.int x2), some (.int r2)]) zd_211_20 (Nat.le_of_ble_eq_true rfl) rfl]
    rw [zs_iload_n (ls := [some (.ref 82), some (.int x1), some (.int x2), some (.int r2)]) zd_211_21 rfl]
    rw [zs_iconst (z := (-1)) zd_211_22 (by decide)]
    by_cases c3 : ¬ r2 = (-1)
    · rw [if_pos c3] at H
      rw [zp_icmp_ne_t (x := r2) (y := (-1)) (t := 31) zd_211_23 rfl c3]
      rw [zs_aload_n (ls := [some (.ref 82), some (.int x1), some (.int x2), some (.int r2)]) zd_211_31 rfl]
      rw [zs_iload_n (ls := [some (.ref 82), some (.int x1), some (.int x2), some (.int r2)]) zd_211_32 rfl]
      rw [zs_iload_n (ls := [some (.ref 82), some (.int x1), some (.int x2), some (.int r2)]) zd_211_33 rfl]
      obtain ⟨r4, hr4, H⟩ := Option.bind_eq_some_iff.mp H
      rw [zp_callVi (x := r4) (st := [.int x2, .int r2, .ref 82]) (as := [.ref 82, .int r2, .int x2]) (rest := []) (e := 0) zd_211_34 rfl (by decide +kernel) (by decide) rfl rfl (Nat.le_of_ble_eq_true rfl) (zx_rcb_ok rfl (show 82 < 119 by decide)) (Nat.le_of_ble_eq_true rfl) rfl (by decide) (zt_M_ofPair hr4)]
      have H := Option.some.inj H
      subst H
      exact zs_ireturn zd_211_37 rfl
    · rw [if_neg c3] at H
      rw [zp_icmp_ne_f (x := r2) (y := (-1)) (t := 31) zd_211_23 rfl c3]
      rw [zs_bipush (z := (-102)) zd_211_26 (by decide)]
      rw [zs_goto (t := 37) zd_211_28 rfl]
      have H := Option.some.inj H
      subst H
      exact zs_ireturn zd_211_37 (by decide +kernel)
  · rw [if_neg c1] at H
    rw [zp_if_ne_f (x := (σ 82 53)) (t := 15) zd_211_9 rfl c1]
    rw [zs_bipush (z := (-101)) zd_211_12 (by decide)]
    have H := Option.some.inj H
    subst H
    exact zs_ireturn zd_211_14 (by decide +kernel)
set_option maxRecDepth 20000 in
theorem zt_Program_hasThread {a b L : Nat} {σ : zS} {τ : zT} {x1 : Int32} {r : Int32} (H : zf_Program_hasThread σ x1 = some r) : zx_go 0 214 0 [some (.ref 4), some (.int x1)] [] ((119, a, b), zx_pk (zK L) 119, σ, τ, zR) = some (some (.int r), ((119, a, b), zx_pk (zK L) 119, σ, τ, zR)) := by
  unfold zf_Program_hasThread at H
  rw [zs_iload_n (ls := [some (.ref 4), some (.int x1)]) zd_214_0 rfl]
  by_cases c1 : x1 < 0
  · rw [if_pos c1] at H
    rw [zp_if_lt_t (x := x1) (t := 21) zd_214_1 rfl c1]
    rw [zs_iconst (z := 0) zd_214_21 (by decide)]
    have H := Option.some.inj H
    subst H
    exact zs_ireturn zd_214_22 (by decide +kernel)
  · rw [if_neg c1] at H
    rw [zp_if_lt_f (x := x1) (t := 21) zd_214_1 rfl c1]
    rw [zs_iload_n (ls := [some (.ref 4), some (.int x1)]) zd_214_4 rfl]
    rw [zs_aload_n (ls := [some (.ref 4), some (.int x1)]) zd_214_5 rfl]
    rw [zp_getI (n := 119) (K := zx_pk (zK L) 119) (σ := σ) (c := 6) (k := 2) (q := 4) (v := (σ 4 2)) zd_214_6 rfl rfl rfl (by decide) rfl]
    by_cases c2 : (σ 4 2) ≤ x1
    · rw [if_pos c2] at H
      rw [zp_icmp_ge_t (x := x1) (y := (σ 4 2)) (t := 21) zd_214_9 rfl c2]
      rw [zs_iconst (z := 0) zd_214_21 (by decide)]
      have H := Option.some.inj H
      subst H
      exact zs_ireturn zd_214_22 (by decide +kernel)
    · rw [if_neg c2] at H
      rw [zp_icmp_ge_f (x := x1) (y := (σ 4 2)) (t := 21) zd_214_9 rfl c2]
      rw [zs_iload_n (ls := [some (.ref 4), some (.int x1)]) zd_214_12 rfl]
      rw [zs_iconst (z := 4) zd_214_13 (by decide)]
      by_cases c3 : 4 ≤ x1
      · rw [if_pos c3] at H
        rw [zp_icmp_ge_t (x := x1) (y := 4) (t := 21) zd_214_14 rfl c3]
        rw [zs_iconst (z := 0) zd_214_21 (by decide)]
        have H := Option.some.inj H
        subst H
        exact zs_ireturn zd_214_22 (by decide +kernel)
      · rw [if_neg c3] at H
        rw [zp_icmp_ge_f (x := x1) (y := 4) (t := 21) zd_214_14 rfl c3]
        rw [zs_iconst (z := 1) zd_214_17 (by decide)]
        rw [zs_goto (t := 22) zd_214_18 rfl]
        have H := Option.some.inj H
        subst H
        exact zs_ireturn zd_214_22 (by decide +kernel)
set_option maxRecDepth 20000 in
theorem zt_X_thread {a b L N : Nat} {σ : zS} {τ : zT} {x1 : Int32} {x2 : Int32} {x3 : Int32} {r : Int32 × zS} (H : zf_X_thread N σ x1 x2 x3 = some r) : zx_go 4 213 0 [some (.ref 2), some (.int x1), some (.int x2), some (.int x3)] [] ((119, a, b), zx_pk (zK L) 119, σ, τ, zR) = some (some (.int r.1), ((119, a, b), zx_pk (zK L) 119, r.2, τ, zR)) := by
  unfold zf_X_thread at H
  rw [zs_aload_n (ls := [some (.ref 2), some (.int x1), some (.int x2), some (.int x3)]) zd_213_0 rfl]
  rw [zp_getZ (n := 119) (K := zx_pk (zK L) 119) (σ := σ) (c := 11) (k := 15) (q := 2) (v := (σ 2 15)) zd_213_1 rfl rfl rfl (by decide) rfl]
  by_cases c1 : ¬ (σ 2 15) = 0
  · rw [if_pos c1] at H
    rw [zp_if_ne_t (x := (σ 2 15)) (t := 10) zd_213_4 rfl c1]
    rw [zs_aload_n (ls := [some (.ref 2), some (.int x1), some (.int x2), some (.int x3)]) zd_213_10 rfl]
    rw [zs_getR (n := 119) (K := zx_pk (zK L) 119) (ρ := zR) (c := 11) (k := 1) (q := 2) (p := 4) zd_213_11 rfl rfl rfl (by decide) rfl]
    rw [zs_iload_n (ls := [some (.ref 2), some (.int x1), some (.int x2), some (.int x3)]) zd_213_14 rfl]
    obtain ⟨r2, hr2, H⟩ := Option.bind_eq_some_iff.mp H
    rw [zp_callVi (x := r2) (st := [.int x2, .ref 4]) (as := [.ref 4, .int x2]) (rest := []) (e := 0) zd_213_15 rfl (by decide +kernel) (by decide) rfl rfl (Nat.le_of_ble_eq_true rfl) (zx_rcb_ok rfl (show 4 < 119 by decide)) (Nat.le_of_ble_eq_true rfl) rfl (by decide) (zt_Program_hasThread hr2)]
    by_cases c3 : r2 = 0
    · rw [if_pos c3] at H
      rw [zp_if_eq_t (x := r2) (t := 32) zd_213_18 rfl c3]
      rw [zs_bipush (z := (-102)) zd_213_32 (by decide)]
      have H := Option.some.inj H
      subst H
      exact zs_ireturn zd_213_34 (by decide +kernel)
    · rw [if_neg c3] at H
      rw [zp_if_eq_f (x := r2) (t := 32) zd_213_18 rfl c3]
      rw [zs_aload_n (ls := [some (.ref 2), some (.int x1), some (.int x2), some (.int x3)]) zd_213_21 rfl]
      rw [zs_getR (n := 119) (K := zx_pk (zK L) 119) (ρ := zR) (c := 11) (k := 4) (q := 2) (p := 41) zd_213_22 rfl rfl rfl (by decide) rfl]
      rw [zs_iload_n (ls := [some (.ref 2), some (.int x1), some (.int x2), some (.int x3)]) zd_213_25 rfl]
      obtain ⟨r4, hr4, H⟩ := Option.bind_eq_some_iff.mp H
      rw [zp_callVi (x := r4) (st := [.int x1, .ref 41]) (as := [.ref 41, .int x1]) (rest := []) (e := 0) zd_213_26 rfl (by decide +kernel) (by decide) rfl rfl (Nat.le_of_ble_eq_true rfl) (zx_rcb_ok rfl (show 41 < 119 by decide)) (Nat.le_of_ble_eq_true rfl) rfl (by decide) (zt_Space_has hr4)]
      by_cases c5 : ¬ r4 = 0
      · rw [if_pos c5] at H
        rw [zp_if_ne_t (x := r4) (t := 35) zd_213_29 rfl c5]
        rw [zs_aload_n (ls := [some (.ref 2), some (.int x1), some (.int x2), some (.int x3)]) zd_213_35 rfl]
        rw [zs_getR (n := 119) (K := zx_pk (zK L) 119) (ρ := zR) (c := 11) (k := 4) (q := 2) (p := 41) zd_213_36 rfl rfl rfl (by decide) rfl]
        rw [zs_iload_n (ls := [some (.ref 2), some (.int x1), some (.int x2), some (.int x3)]) zd_213_39 rfl]
        obtain ⟨r6, hr6, H⟩ := Option.bind_eq_some_iff.mp H
        rw [zp_callVv (st := [.int x1, .ref 41]) (as := [.ref 41, .int x1]) (rest := []) (e := 3) zd_213_40 rfl (by decide +kernel) (by decide) rfl rfl (Nat.le_of_ble_eq_true rfl) (zx_rcb_ok rfl (show 41 < 119 by decide)) (Nat.le_of_ble_eq_true rfl) rfl (by decide) (zt_Space_load hr6)]
        rw [zs_iload_n (ls := [some (.ref 2), some (.int x1), some (.int x2), some (.int x3)]) zd_213_43 rfl]
        by_cases c7 : x3 = 0
        · rw [if_pos c7] at H
          rw [zs_table (x := x3) (off := 40) (t := 84) zd_213_44 (by rw [c7]; decide) rfl]
          rw [zs_aload_n (ls := [some (.ref 2), some (.int x1), some (.int x2), some (.int x3)]) zd_213_84 rfl]
          rw [zs_getR (n := 119) (K := zx_pk (zK L) 119) (ρ := zR) (c := 11) (k := 3) (q := 2) (p := 35) zd_213_85 rfl rfl rfl (by decide) rfl]
          rw [zs_iload_n (ls := [some (.ref 2), some (.int x1), some (.int x2), some (.int x3)]) zd_213_88 rfl]
          obtain ⟨r19, hr19, H⟩ := Option.bind_eq_some_iff.mp H
          rw [zp_callVi (x := r19) (st := [.int x2, .ref 35]) (as := [.ref 35, .int x2]) (rest := []) (e := 0) zd_213_89 rfl (by decide +kernel) (by decide) rfl rfl (Nat.le_of_ble_eq_true rfl) (zx_rcb_ok rfl (show 35 < 119 by decide)) (Nat.le_of_ble_eq_true rfl) rfl (by decide) (zt_Machine_howOf hr19)]
          have H := Option.some.inj H
          subst H
          exact zs_ireturn zd_213_92 rfl
        · rw [if_neg c7] at H
          by_cases c8 : x3 = 1
          · rw [if_pos c8] at H
            rw [zs_table (x := x3) (off := 49) (t := 93) zd_213_44 (by rw [c8]; decide) rfl]
            rw [zs_aload_n (ls := [some (.ref 2), some (.int x1), some (.int x2), some (.int x3)]) zd_213_93 rfl]
            rw [zs_getR (n := 119) (K := zx_pk (zK L) 119) (ρ := zR) (c := 11) (k := 3) (q := 2) (p := 35) zd_213_94 rfl rfl rfl (by decide) rfl]
            rw [zs_iload_n (ls := [some (.ref 2), some (.int x1), some (.int x2), some (.int x3)]) zd_213_97 rfl]
            obtain ⟨r18, hr18, H⟩ := Option.bind_eq_some_iff.mp H
            rw [zp_callVi (x := r18) (st := [.int x2, .ref 35]) (as := [.ref 35, .int x2]) (rest := []) (e := 1) zd_213_98 rfl (by decide +kernel) (by decide) rfl rfl (Nat.le_of_ble_eq_true rfl) (zx_rcb_ok rfl (show 35 < 119 by decide)) (Nat.le_of_ble_eq_true rfl) rfl (by decide) (zt_Machine_stepOf hr18)]
            have H := Option.some.inj H
            subst H
            exact zs_ireturn zd_213_101 rfl
          · rw [if_neg c8] at H
            by_cases c9 : x3 = 2
            · rw [if_pos c9] at H
              rw [zs_table (x := x3) (off := 58) (t := 102) zd_213_44 (by rw [c9]; decide) rfl]
              rw [zs_aload_n (ls := [some (.ref 2), some (.int x1), some (.int x2), some (.int x3)]) zd_213_102 rfl]
              rw [zs_getR (n := 119) (K := zx_pk (zK L) 119) (ρ := zR) (c := 11) (k := 3) (q := 2) (p := 35) zd_213_103 rfl rfl rfl (by decide) rfl]
              rw [zs_iload_n (ls := [some (.ref 2), some (.int x1), some (.int x2), some (.int x3)]) zd_213_106 rfl]
              obtain ⟨r16, hr16, H⟩ := Option.bind_eq_some_iff.mp H
              rw [zp_callVi (x := r16) (st := [.int x2, .ref 35]) (as := [.ref 35, .int x2]) (rest := []) (e := 1) zd_213_107 rfl (by decide +kernel) (by decide) rfl rfl (Nat.le_of_ble_eq_true rfl) (zx_rcb_ok rfl (show 35 < 119 by decide)) (Nat.le_of_ble_eq_true rfl) rfl (by decide) (zt_Machine_canMove hr16)]
              by_cases c17 : r16 = 0
              · rw [if_pos c17] at H
                rw [zp_if_eq_t (x := r16) (t := 117) zd_213_110 rfl c17]
                rw [zs_iconst (z := 0) zd_213_117 (by decide)]
                have H := Option.some.inj H
                subst H
                exact zs_ireturn zd_213_118 (by decide +kernel)
              · rw [if_neg c17] at H
                rw [zp_if_eq_f (x := r16) (t := 117) zd_213_110 rfl c17]
                rw [zs_iconst (z := 1) zd_213_113 (by decide)]
                rw [zs_goto (t := 118) zd_213_114 rfl]
                have H := Option.some.inj H
                subst H
                exact zs_ireturn zd_213_118 (by decide +kernel)
            · rw [if_neg c9] at H
              by_cases c10 : x3 = 3
              · rw [if_pos c10] at H
                rw [zs_table (x := x3) (off := 75) (t := 119) zd_213_44 (by rw [c10]; decide) rfl]
                rw [zs_aload_n (ls := [some (.ref 2), some (.int x1), some (.int x2), some (.int x3)]) zd_213_119 rfl]
                rw [zs_getR (n := 119) (K := zx_pk (zK L) 119) (ρ := zR) (c := 11) (k := 3) (q := 2) (p := 35) zd_213_120 rfl rfl rfl (by decide) rfl]
                rw [zs_iload_n (ls := [some (.ref 2), some (.int x1), some (.int x2), some (.int x3)]) zd_213_123 rfl]
                rw [zs_iload_n (ls := [some (.ref 2), some (.int x1), some (.int x2), some (.int x3)]) zd_213_124 rfl]
                rw [zs_iconst (z := 3) zd_213_125 (by decide)]
                rw [zp_isub (x := x3) (y := 3) (z := (x3 - 3)) zd_213_126 rfl]
                obtain ⟨r15, hr15, H⟩ := Option.bind_eq_some_iff.mp H
                rw [zp_callVi (x := r15) (st := [.int (x3 - 3), .int x2, .ref 35]) (as := [.ref 35, .int x2, .int (x3 - 3)]) (rest := []) (e := 0) zd_213_127 rfl (by decide +kernel) (by decide) rfl rfl (Nat.le_of_ble_eq_true rfl) (zx_rcb_ok rfl (show 35 < 119 by decide)) (Nat.le_of_ble_eq_true rfl) rfl (by decide) (zt_Machine_localOf hr15)]
                have H := Option.some.inj H
                subst H
                exact zs_ireturn zd_213_130 rfl
              · rw [if_neg c10] at H
                by_cases c11 : x3 = 4
                · rw [if_pos c11] at H
                  rw [zs_table (x := x3) (off := 75) (t := 119) zd_213_44 (by rw [c11]; decide) rfl]
                  rw [zs_aload_n (ls := [some (.ref 2), some (.int x1), some (.int x2), some (.int x3)]) zd_213_119 rfl]
                  rw [zs_getR (n := 119) (K := zx_pk (zK L) 119) (ρ := zR) (c := 11) (k := 3) (q := 2) (p := 35) zd_213_120 rfl rfl rfl (by decide) rfl]
                  rw [zs_iload_n (ls := [some (.ref 2), some (.int x1), some (.int x2), some (.int x3)]) zd_213_123 rfl]
                  rw [zs_iload_n (ls := [some (.ref 2), some (.int x1), some (.int x2), some (.int x3)]) zd_213_124 rfl]
                  rw [zs_iconst (z := 3) zd_213_125 (by decide)]
                  rw [zp_isub (x := x3) (y := 3) (z := (x3 - 3)) zd_213_126 rfl]
                  obtain ⟨r14, hr14, H⟩ := Option.bind_eq_some_iff.mp H
                  rw [zp_callVi (x := r14) (st := [.int (x3 - 3), .int x2, .ref 35]) (as := [.ref 35, .int x2, .int (x3 - 3)]) (rest := []) (e := 0) zd_213_127 rfl (by decide +kernel) (by decide) rfl rfl (Nat.le_of_ble_eq_true rfl) (zx_rcb_ok rfl (show 35 < 119 by decide)) (Nat.le_of_ble_eq_true rfl) rfl (by decide) (zt_Machine_localOf hr14)]
                  have H := Option.some.inj H
                  subst H
                  exact zs_ireturn zd_213_130 rfl
                · rw [if_neg c11] at H
                  by_cases c12 : x3 = 5
                  · rw [if_pos c12] at H
                    rw [zs_table (x := x3) (off := 75) (t := 119) zd_213_44 (by rw [c12]; decide) rfl]
                    rw [zs_aload_n (ls := [some (.ref 2), some (.int x1), some (.int x2), some (.int x3)]) zd_213_119 rfl]
                    rw [zs_getR (n := 119) (K := zx_pk (zK L) 119) (ρ := zR) (c := 11) (k := 3) (q := 2) (p := 35) zd_213_120 rfl rfl rfl (by decide) rfl]
                    rw [zs_iload_n (ls := [some (.ref 2), some (.int x1), some (.int x2), some (.int x3)]) zd_213_123 rfl]
                    rw [zs_iload_n (ls := [some (.ref 2), some (.int x1), some (.int x2), some (.int x3)]) zd_213_124 rfl]
                    rw [zs_iconst (z := 3) zd_213_125 (by decide)]
                    rw [zp_isub (x := x3) (y := 3) (z := (x3 - 3)) zd_213_126 rfl]
                    obtain ⟨r13, hr13, H⟩ := Option.bind_eq_some_iff.mp H
                    rw [zp_callVi (x := r13) (st := [.int (x3 - 3), .int x2, .ref 35]) (as := [.ref 35, .int x2, .int (x3 - 3)]) (rest := []) (e := 0) zd_213_127 rfl (by decide +kernel) (by decide) rfl rfl (Nat.le_of_ble_eq_true rfl) (zx_rcb_ok rfl (show 35 < 119 by decide)) (Nat.le_of_ble_eq_true rfl) rfl (by decide) (zt_Machine_localOf hr13)]
                    have H := Option.some.inj H
                    subst H
                    exact zs_ireturn zd_213_130 rfl
                  · rw [if_neg c12] at H
                    rw [zs_table (x := x3) (off := 87) (t := 131) zd_213_44 (if_pos (by have e : ∀ z : Int32, ¬ x3 = z → ¬ (x3 : Int32).toInt = z.toInt := fun z h q => h (Int32.toInt_inj.mp q); have q0 := e 0 c7; have q1 := e 1 c8; have q2 := e 2 c9; have q3 := e 3 c10; have q4 := e 4 c11; have q5 := e 5 c12; simp only [show (0 : Int32).toInt = 0 from rfl, show (1 : Int32).toInt = 1 from rfl, show (2 : Int32).toInt = 2 from rfl, show (3 : Int32).toInt = 3 from rfl, show (4 : Int32).toInt = 4 from rfl, show (5 : Int32).toInt = 5 from rfl] at q0 q1 q2 q3 q4 q5; omega)) rfl]
                    rw [zs_bipush (z := (-102)) zd_213_131 (by decide)]
                    have H := Option.some.inj H
                    subst H
                    exact zs_ireturn zd_213_133 (by decide +kernel)
      · rw [if_neg c5] at H
        rw [zp_if_ne_f (x := r4) (t := 35) zd_213_29 rfl c5]
        rw [zs_bipush (z := (-102)) zd_213_32 (by decide)]
        have H := Option.some.inj H
        subst H
        exact zs_ireturn zd_213_34 (by decide +kernel)
  · rw [if_neg c1] at H
    rw [zp_if_ne_f (x := (σ 2 15)) (t := 10) zd_213_4 rfl c1]
    rw [zs_bipush (z := (-101)) zd_213_7 (by decide)]
    have H := Option.some.inj H
    subst H
    exact zs_ireturn zd_213_9 (by decide +kernel)
set_option maxRecDepth 20000 in
theorem zt_M_isState {a b L : Nat} {σ : zS} {τ : zT} {x1 : Int32} {r : Int32} (H : zf_M_isState σ x1 = some r) : zx_go 1 216 0 [some (.ref 82), some (.int x1)] [] ((119, a, b), zx_pk (zK L) 119, σ, τ, zR) = some (some (.int r), ((119, a, b), zx_pk (zK L) 119, σ, τ, zR)) := by
  unfold zf_M_isState at H
  rw [zs_iload_n (ls := [some (.ref 82), some (.int x1)]) zd_216_0 rfl]
  rw [zs_iconst (z := 0) zd_216_1 (by decide)]
  rw [zs_aload_n (ls := [some (.ref 82), some (.int x1)]) zd_216_2 rfl]
  rw [zp_getI (n := 119) (K := zx_pk (zK L) 119) (σ := σ) (c := 12) (k := 54) (q := 82) (v := (σ 82 54)) zd_216_3 rfl rfl rfl (by decide) rfl]
  rw [zs_iconst (z := 1) zd_216_6 (by decide)]
  rw [zp_isub (x := (σ 82 54)) (y := 1) (z := ((σ 82 54) - 1)) zd_216_7 rfl]
  obtain ⟨r1, hr1, H⟩ := Option.bind_eq_some_iff.mp H
  rw [zp_callSi (x := r1) (st := [.int ((σ 82 54) - 1), .int 0, .int x1]) (as := [.int x1, .int 0, .int ((σ 82 54) - 1)]) (rest := []) (e := 0) zd_216_8 rfl (by decide +kernel) (by decide) rfl rfl (Nat.le_of_ble_eq_true rfl) rfl (Nat.le_of_ble_eq_true rfl) rfl (by decide) (zt_M_in hr1)]
  by_cases c2 : r1 = 0 ∨ r1 = 1
  · rw [if_pos c2] at H
    have H := Option.some.inj H
    subst H
    exact zs_ireturn zd_216_11 (zJ_bt c2)
  · rw [if_neg c2] at H
    cases H
set_option maxRecDepth 20000 in
theorem zt_M_thread {a b L N : Nat} {σ : zS} {τ : zT} {x1 : Int32} {x2 : Int32} {x3 : Int32} {r : Int32 × zS} (H : zf_M_thread N σ x1 x2 x3 = some r) : zx_go 3 215 0 [some (.ref 82), some (.int x1), some (.int x2), some (.int x3)] [] ((119, a, b), zx_pk (zK L) 119, σ, τ, zR) = some (some (.int r.1), ((119, a, b), zx_pk (zK L) 119, r.2, τ, zR)) := by
  unfold zf_M_thread at H
  rw [zs_aload_n (ls := [some (.ref 82), some (.int x1), some (.int x2), some (.int x3)]) zd_215_0 rfl]
  rw [zs_iconst (z := 0) zd_215_1 (by decide)]
  rw [zs_putI (n := 119) (K := zx_pk (zK L) 119) (c := 12) (k := 0) (q := 82) (x := 0) zd_215_2 rfl rfl (by decide +kernel) rfl (by decide)]
  rw [zs_aload_n (ls := [some (.ref 82), some (.int x1), some (.int x2), some (.int x3)]) zd_215_5 rfl]
  rw [zp_getZ (n := 119) (K := zx_pk (zK L) 119) (σ := (zx_up σ 82 0 0)) (c := 12) (k := 53) (q := 82) (v := (σ 82 53)) zd_215_6 rfl rfl rfl (by decide) (show ((zx_up σ 82 0 0) : zS) 82 53 = (σ 82 53) from ((zx_up_nj (by decide)).trans rfl))]
  by_cases c1 : ¬ (σ 82 53) = 0
  · rw [if_pos c1] at H
    rw [zp_if_ne_t (x := (σ 82 53)) (t := 15) zd_215_9 rfl c1]
    rw [zs_aload_n (ls := [some (.ref 82), some (.int x1), some (.int x2), some (.int x3)]) zd_215_15 rfl]
    rw [zs_iload_n (ls := [some (.ref 82), some (.int x1), some (.int x2), some (.int x3)]) zd_215_16 rfl]
    obtain ⟨r2, hr2, H⟩ := Option.bind_eq_some_iff.mp H
    rw [zp_callVi (x := r2) (st := [.int x1, .ref 82]) (as := [.ref 82, .int x1]) (rest := []) (e := 1) zd_215_17 rfl (by decide +kernel) (by decide) rfl rfl (Nat.le_of_ble_eq_true rfl) (zx_rcb_ok rfl (show 82 < 119 by decide)) (Nat.le_of_ble_eq_true rfl) rfl (by decide) (zt_M_isState hr2)]
    by_cases c3 : r2 = 0
    · rw [if_pos c3] at H
      rw [zp_if_eq_t (x := r2) (t := 46) zd_215_20 rfl c3]
      rw [zs_bipush (z := (-102)) zd_215_46 (by decide)]
      have H := Option.some.inj H
      subst H
      exact zs_ireturn zd_215_48 (by decide +kernel)
    · rw [if_neg c3] at H
      rw [zp_if_eq_f (x := r2) (t := 46) zd_215_20 rfl c3]
      rw [zs_iload_n (ls := [some (.ref 82), some (.int x1), some (.int x2), some (.int x3)]) zd_215_23 rfl]
      rw [zs_iconst (z := 0) zd_215_24 (by decide)]
      rw [zs_aload_n (ls := [some (.ref 82), some (.int x1), some (.int x2), some (.int x3)]) zd_215_25 rfl]
      rw [zp_getI (n := 119) (K := zx_pk (zK L) 119) (σ := (zx_up σ 82 0 0)) (c := 12) (k := 17) (q := 82) (v := (σ 82 17)) zd_215_26 rfl rfl rfl (by decide) (show ((zx_up σ 82 0 0) : zS) 82 17 = (σ 82 17) from ((zx_up_nj (by decide)).trans rfl))]
      rw [zs_iconst (z := 1) zd_215_29 (by decide)]
      rw [zp_isub (x := (σ 82 17)) (y := 1) (z := ((σ 82 17) - 1)) zd_215_30 rfl]
      obtain ⟨r4, hr4, H⟩ := Option.bind_eq_some_iff.mp H
      rw [zp_callSi (x := r4) (st := [.int ((σ 82 17) - 1), .int 0, .int x2]) (as := [.int x2, .int 0, .int ((σ 82 17) - 1)]) (rest := []) (e := 0) zd_215_31 rfl (by decide +kernel) (by decide) rfl rfl (Nat.le_of_ble_eq_true rfl) rfl (Nat.le_of_ble_eq_true rfl) rfl (by decide) (zt_M_in hr4)]
      by_cases c5 : r4 = 0
      · rw [if_pos c5] at H
        rw [zp_if_eq_t (x := r4) (t := 46) zd_215_34 rfl c5]
        rw [zs_bipush (z := (-102)) zd_215_46 (by decide)]
        have H := Option.some.inj H
        subst H
        exact zs_ireturn zd_215_48 (by decide +kernel)
      · rw [if_neg c5] at H
        rw [zp_if_eq_f (x := r4) (t := 46) zd_215_34 rfl c5]
        rw [zs_iload_n (ls := [some (.ref 82), some (.int x1), some (.int x2), some (.int x3)]) zd_215_37 rfl]
        rw [zs_iconst (z := 0) zd_215_38 (by decide)]
        rw [zs_iconst (z := 5) zd_215_39 (by decide)]
        obtain ⟨r6, hr6, H⟩ := Option.bind_eq_some_iff.mp H
        rw [zp_callSi (x := r6) (st := [.int 5, .int 0, .int x3]) (as := [.int x3, .int 0, .int 5]) (rest := []) (e := 0) zd_215_40 rfl (by decide +kernel) (by decide) rfl rfl (Nat.le_of_ble_eq_true rfl) rfl (Nat.le_of_ble_eq_true rfl) rfl (by decide) (zt_M_in hr6)]
        by_cases c7 : ¬ r6 = 0
        · rw [if_pos c7] at H
          rw [zp_if_ne_t (x := r6) (t := 49) zd_215_43 rfl c7]
          rw [zs_aload_n (ls := [some (.ref 82), some (.int x1), some (.int x2), some (.int x3)]) zd_215_49 rfl]
          rw [zs_iload_n (ls := [some (.ref 82), some (.int x1), some (.int x2), some (.int x3)]) zd_215_50 rfl]
          obtain ⟨r8, hr8, H⟩ := Option.bind_eq_some_iff.mp H
          rw [zp_callVv (st := [.int x1, .ref 82]) (as := [.ref 82, .int x1]) (rest := []) (e := 0) zd_215_51 rfl (by decide +kernel) (by decide) rfl rfl (Nat.le_of_ble_eq_true rfl) (zx_rcb_ok rfl (show 82 < 119 by decide)) (Nat.le_of_ble_eq_true rfl) rfl (by decide) (zt_M_load hr8)]
          rw [zs_iload_n (ls := [some (.ref 82), some (.int x1), some (.int x2), some (.int x3)]) zd_215_54 rfl]
          by_cases c9 : ¬ x3 = 0
          · rw [if_pos c9] at H
            rw [zp_if_ne_t (x := x3) (t := 66) zd_215_55 rfl c9]
            rw [zs_iload_n (ls := [some (.ref 82), some (.int x1), some (.int x2), some (.int x3)]) zd_215_66 rfl]
            rw [zs_iconst (z := 1) zd_215_67 (by decide)]
            by_cases c10 : ¬ x3 = 1
            · rw [if_pos c10] at H
              rw [zp_icmp_ne_t (x := x3) (y := 1) (t := 84) zd_215_68 rfl c10]
              rw [zs_iload_n (ls := [some (.ref 82), some (.int x1), some (.int x2), some (.int x3)]) zd_215_84 rfl]
              rw [zs_iconst (z := 2) zd_215_85 (by decide)]
              by_cases c11 : ¬ x3 = 2
              · rw [if_pos c11] at H
                rw [zp_icmp_ne_t (x := x3) (y := 2) (t := 105) zd_215_86 rfl c11]
                rw [zs_aload_n (ls := [some (.ref 82), some (.int x1), some (.int x2), some (.int x3)]) zd_215_105 rfl]
                rw [zs_getR (n := 119) (K := zx_pk (zK L) 119) (ρ := zR) (c := 12) (k := 47) (q := 82) (p := 107) zd_215_106 rfl rfl rfl (by decide) rfl]
                rw [zs_aload_n (ls := [some (.ref 82), some (.int x1), some (.int x2), some (.int x3)]) zd_215_109 rfl]
                rw [zs_iload_n (ls := [some (.ref 82), some (.int x1), some (.int x2), some (.int x3)]) zd_215_110 rfl]
                obtain ⟨r12, hr12, H⟩ := Option.bind_eq_some_iff.mp H
                rw [zp_callVi (x := r12) (st := [.int x2, .ref 82, .ref 107]) (as := [.ref 82, .int x2]) (rest := [.ref 107]) (e := 0) zd_215_111 rfl (by decide +kernel) (by decide) rfl rfl (Nat.le_of_ble_eq_true rfl) (zx_rcb_ok rfl (show 82 < 119 by decide)) (Nat.le_of_ble_eq_true rfl) rfl (by decide) (zt_M_at hr12)]
                rw [zs_iload_n (ls := [some (.ref 82), some (.int x1), some (.int x2), some (.int x3)]) zd_215_114 rfl]
                rw [zp_iadd (x := r12) (y := x3) (z := (r12 + x3)) zd_215_115 rfl]
                rw [zs_iconst (z := 1) zd_215_116 (by decide)]
                rw [zp_isub (x := (r12 + x3)) (y := 1) (z := ((r12 + x3) - 1)) zd_215_117 rfl]
                by_cases c13 : 0 ≤ ((r12 + x3) - 1) ∧ ((r12 + x3) - 1) < 40
                · rw [if_pos c13] at H
                  rw [zp_iaload (n := 119) (K := zx_pk (zK L) 119) (σ := r8) (q := 107) (m := 40) (i := ((r12 + x3) - 1)) (k := ((r12 + x3) - 1).toNatClampNeg) (v := (r8 107 ((r12 + x3) - 1).toNatClampNeg)) zd_215_118 rfl (by decide) (zJ_in c13 rfl) rfl rfl]
                  have H := Option.some.inj H
                  subst H
                  exact zs_ireturn zd_215_119 rfl
                · rw [if_neg c13] at H
                  cases H
              · rw [if_neg c11] at H
                rw [zp_icmp_ne_f (x := x3) (y := 2) (t := 105) zd_215_86 rfl c11]
                rw [zs_aload_n (ls := [some (.ref 82), some (.int x1), some (.int x2), some (.int x3)]) zd_215_89 rfl]
                rw [zs_iload_n (ls := [some (.ref 82), some (.int x1), some (.int x2), some (.int x3)]) zd_215_90 rfl]
                obtain ⟨r14, hr14, H⟩ := Option.bind_eq_some_iff.mp H
                rw [zp_callVi (x := r14) (st := [.int x2, .ref 82]) (as := [.ref 82, .int x2]) (rest := []) (e := 2) zd_215_91 rfl (by decide +kernel) (by decide) rfl rfl (Nat.le_of_ble_eq_true rfl) (zx_rcb_ok rfl (show 82 < 119 by decide)) (Nat.le_of_ble_eq_true rfl) rfl (by decide) (zt_M_canStep hr14)]
                by_cases c15 : r14 = 0
                · rw [if_pos c15] at H
                  rw [zp_if_eq_t (x := r14) (t := 101) zd_215_94 rfl c15]
                  rw [zs_iconst (z := 0) zd_215_101 (by decide)]
                  rw [zs_goto (t := 119) zd_215_102 rfl]
                  have H := Option.some.inj H
                  subst H
                  exact zs_ireturn zd_215_119 (by decide +kernel)
                · rw [if_neg c15] at H
                  rw [zp_if_eq_f (x := r14) (t := 101) zd_215_94 rfl c15]
                  rw [zs_iconst (z := 1) zd_215_97 (by decide)]
                  rw [zs_goto (t := 119) zd_215_98 rfl]
                  have H := Option.some.inj H
                  subst H
                  exact zs_ireturn zd_215_119 (by decide +kernel)
            · rw [if_neg c10] at H
              rw [zp_icmp_ne_f (x := x3) (y := 1) (t := 84) zd_215_68 rfl c10]
              rw [zs_aload_n (ls := [some (.ref 82), some (.int x1), some (.int x2), some (.int x3)]) zd_215_71 rfl]
              rw [zs_getR (n := 119) (K := zx_pk (zK L) 119) (ρ := zR) (c := 12) (k := 47) (q := 82) (p := 107) zd_215_72 rfl rfl rfl (by decide) rfl]
              rw [zs_aload_n (ls := [some (.ref 82), some (.int x1), some (.int x2), some (.int x3)]) zd_215_75 rfl]
              rw [zs_iload_n (ls := [some (.ref 82), some (.int x1), some (.int x2), some (.int x3)]) zd_215_76 rfl]
              obtain ⟨r16, hr16, H⟩ := Option.bind_eq_some_iff.mp H
              rw [zp_callVi (x := r16) (st := [.int x2, .ref 82, .ref 107]) (as := [.ref 82, .int x2]) (rest := [.ref 107]) (e := 0) zd_215_77 rfl (by decide +kernel) (by decide) rfl rfl (Nat.le_of_ble_eq_true rfl) (zx_rcb_ok rfl (show 82 < 119 by decide)) (Nat.le_of_ble_eq_true rfl) rfl (by decide) (zt_M_at hr16)]
              by_cases c17 : 0 ≤ r16 ∧ r16 < 40
              · rw [if_pos c17] at H
                rw [zp_iaload (n := 119) (K := zx_pk (zK L) 119) (σ := r8) (q := 107) (m := 40) (i := r16) (k := r16.toNatClampNeg) (v := (r8 107 r16.toNatClampNeg)) zd_215_80 rfl (by decide) (zJ_in c17 rfl) rfl rfl]
                rw [zs_goto (t := 119) zd_215_81 rfl]
                have H := Option.some.inj H
                subst H
                exact zs_ireturn zd_215_119 rfl
              · rw [if_neg c17] at H
                cases H
          · rw [if_neg c9] at H
            rw [zp_if_ne_f (x := x3) (t := 66) zd_215_55 rfl c9]
            rw [zs_aload_n (ls := [some (.ref 82), some (.int x1), some (.int x2), some (.int x3)]) zd_215_58 rfl]
            rw [zs_iload_n (ls := [some (.ref 82), some (.int x1), some (.int x2), some (.int x3)]) zd_215_59 rfl]
            obtain ⟨r18, hr18, H⟩ := Option.bind_eq_some_iff.mp H
            rw [zp_callVi (x := r18) (st := [.int x2, .ref 82]) (as := [.ref 82, .int x2]) (rest := []) (e := 1) zd_215_60 rfl (by decide +kernel) (by decide) rfl rfl (Nat.le_of_ble_eq_true rfl) (zx_rcb_ok rfl (show 82 < 119 by decide)) (Nat.le_of_ble_eq_true rfl) rfl (by decide) (zt_M_stateOf hr18)]
            rw [zs_goto (t := 119) zd_215_63 rfl]
            have H := Option.some.inj H
            subst H
            exact zs_ireturn zd_215_119 rfl
        · rw [if_neg c7] at H
          rw [zp_if_ne_f (x := r6) (t := 49) zd_215_43 rfl c7]
          rw [zs_bipush (z := (-102)) zd_215_46 (by decide)]
          have H := Option.some.inj H
          subst H
          exact zs_ireturn zd_215_48 (by decide +kernel)
  · rw [if_neg c1] at H
    rw [zp_if_ne_f (x := (σ 82 53)) (t := 15) zd_215_9 rfl c1]
    rw [zs_bipush (z := (-101)) zd_215_12 (by decide)]
    have H := Option.some.inj H
    subst H
    exact zs_ireturn zd_215_14 (by decide +kernel)
set_option maxRecDepth 20000 in
theorem zt_X_field {a b L N : Nat} {σ : zS} {τ : zT} {x1 : Int32} {x2 : Int32} {r : Int32 × zS} (H : zf_X_field N σ x1 x2 = some r) : zx_go 4 217 0 [some (.ref 2), some (.int x1), some (.int x2)] [] ((119, a, b), zx_pk (zK L) 119, σ, τ, zR) = some (some (.int r.1), ((119, a, b), zx_pk (zK L) 119, r.2, τ, zR)) := by
  unfold zf_X_field at H
  rw [zs_aload_n (ls := [some (.ref 2), some (.int x1), some (.int x2)]) zd_217_0 rfl]
  rw [zp_getZ (n := 119) (K := zx_pk (zK L) 119) (σ := σ) (c := 11) (k := 15) (q := 2) (v := (σ 2 15)) zd_217_1 rfl rfl rfl (by decide) rfl]
  by_cases c1 : ¬ (σ 2 15) = 0
  · rw [if_pos c1] at H
    rw [zp_if_ne_t (x := (σ 2 15)) (t := 10) zd_217_4 rfl c1]
    rw [zs_iload_n (ls := [some (.ref 2), some (.int x1), some (.int x2)]) zd_217_10 rfl]
    by_cases c2 : x2 < 0
    · rw [if_pos c2] at H
      rw [zp_if_lt_t (x := x2) (t := 36) zd_217_11 rfl c2]
      rw [zs_bipush (z := (-102)) zd_217_36 (by decide)]
      have H := Option.some.inj H
      subst H
      exact zs_ireturn zd_217_38 (by decide +kernel)
    · rw [if_neg c2] at H
      rw [zp_if_lt_f (x := x2) (t := 36) zd_217_11 rfl c2]
      rw [zs_iload_n (ls := [some (.ref 2), some (.int x1), some (.int x2)]) zd_217_14 rfl]
      rw [zs_aload_n (ls := [some (.ref 2), some (.int x1), some (.int x2)]) zd_217_15 rfl]
      rw [zs_getR (n := 119) (K := zx_pk (zK L) 119) (ρ := zR) (c := 11) (k := 1) (q := 2) (p := 4) zd_217_16 rfl rfl rfl (by decide) rfl]
      rw [zp_getI (n := 119) (K := zx_pk (zK L) 119) (σ := σ) (c := 6) (k := 0) (q := 4) (v := (σ 4 0)) zd_217_19 rfl rfl rfl (by decide) rfl]
      by_cases c3 : (σ 4 0) ≤ x2
      · rw [if_pos c3] at H
        rw [zp_icmp_ge_t (x := x2) (y := (σ 4 0)) (t := 36) zd_217_22 rfl c3]
        rw [zs_bipush (z := (-102)) zd_217_36 (by decide)]
        have H := Option.some.inj H
        subst H
        exact zs_ireturn zd_217_38 (by decide +kernel)
      · rw [if_neg c3] at H
        rw [zp_icmp_ge_f (x := x2) (y := (σ 4 0)) (t := 36) zd_217_22 rfl c3]
        rw [zs_aload_n (ls := [some (.ref 2), some (.int x1), some (.int x2)]) zd_217_25 rfl]
        rw [zs_getR (n := 119) (K := zx_pk (zK L) 119) (ρ := zR) (c := 11) (k := 4) (q := 2) (p := 41) zd_217_26 rfl rfl rfl (by decide) rfl]
        rw [zs_iload_n (ls := [some (.ref 2), some (.int x1), some (.int x2)]) zd_217_29 rfl]
        obtain ⟨r4, hr4, H⟩ := Option.bind_eq_some_iff.mp H
        rw [zp_callVi (x := r4) (st := [.int x1, .ref 41]) (as := [.ref 41, .int x1]) (rest := []) (e := 0) zd_217_30 rfl (by decide +kernel) (by decide) rfl rfl (Nat.le_of_ble_eq_true rfl) (zx_rcb_ok rfl (show 41 < 119 by decide)) (Nat.le_of_ble_eq_true rfl) rfl (by decide) (zt_Space_has hr4)]
        by_cases c5 : ¬ r4 = 0
        · rw [if_pos c5] at H
          rw [zp_if_ne_t (x := r4) (t := 39) zd_217_33 rfl c5]
          rw [zs_aload_n (ls := [some (.ref 2), some (.int x1), some (.int x2)]) zd_217_39 rfl]
          rw [zs_getR (n := 119) (K := zx_pk (zK L) 119) (ρ := zR) (c := 11) (k := 4) (q := 2) (p := 41) zd_217_40 rfl rfl rfl (by decide) rfl]
          rw [zs_iload_n (ls := [some (.ref 2), some (.int x1), some (.int x2)]) zd_217_43 rfl]
          obtain ⟨r6, hr6, H⟩ := Option.bind_eq_some_iff.mp H
          rw [zp_callVv (st := [.int x1, .ref 41]) (as := [.ref 41, .int x1]) (rest := []) (e := 3) zd_217_44 rfl (by decide +kernel) (by decide) rfl rfl (Nat.le_of_ble_eq_true rfl) (zx_rcb_ok rfl (show 41 < 119 by decide)) (Nat.le_of_ble_eq_true rfl) rfl (by decide) (zt_Space_load hr6)]
          rw [zs_aload_n (ls := [some (.ref 2), some (.int x1), some (.int x2)]) zd_217_47 rfl]
          rw [zs_getR (n := 119) (K := zx_pk (zK L) 119) (ρ := zR) (c := 11) (k := 3) (q := 2) (p := 35) zd_217_48 rfl rfl rfl (by decide) rfl]
          rw [zs_iload_n (ls := [some (.ref 2), some (.int x1), some (.int x2)]) zd_217_51 rfl]
          obtain ⟨r7, hr7, H⟩ := Option.bind_eq_some_iff.mp H
          rw [zp_callVi (x := r7) (st := [.int x2, .ref 35]) (as := [.ref 35, .int x2]) (rest := []) (e := 0) zd_217_52 rfl (by decide +kernel) (by decide) rfl rfl (Nat.le_of_ble_eq_true rfl) (zx_rcb_ok rfl (show 35 < 119 by decide)) (Nat.le_of_ble_eq_true rfl) rfl (by decide) (zt_Machine_valueOfField hr7)]
          have H := Option.some.inj H
          subst H
          exact zs_ireturn zd_217_55 rfl
        · rw [if_neg c5] at H
          rw [zp_if_ne_f (x := r4) (t := 39) zd_217_33 rfl c5]
          rw [zs_bipush (z := (-102)) zd_217_36 (by decide)]
          have H := Option.some.inj H
          subst H
          exact zs_ireturn zd_217_38 (by decide +kernel)
  · rw [if_neg c1] at H
    rw [zp_if_ne_f (x := (σ 2 15)) (t := 10) zd_217_4 rfl c1]
    rw [zs_bipush (z := (-101)) zd_217_7 (by decide)]
    have H := Option.some.inj H
    subst H
    exact zs_ireturn zd_217_9 (by decide +kernel)
set_option maxRecDepth 20000 in
theorem zt_M_field {a b L : Nat} {σ : zS} {τ : zT} {x1 : Int32} {x2 : Int32} {r : Int32 × zS} (H : zf_M_field σ x1 x2 = some r) : zx_go 2 218 0 [some (.ref 82), some (.int x1), some (.int x2)] [] ((119, a, b), zx_pk (zK L) 119, σ, τ, zR) = some (some (.int r.1), ((119, a, b), zx_pk (zK L) 119, r.2, τ, zR)) := by
  unfold zf_M_field at H
  rw [zs_aload_n (ls := [some (.ref 82), some (.int x1), some (.int x2)]) zd_218_0 rfl]
  rw [zs_iconst (z := 0) zd_218_1 (by decide)]
  rw [zs_putI (n := 119) (K := zx_pk (zK L) 119) (c := 12) (k := 0) (q := 82) (x := 0) zd_218_2 rfl rfl (by decide +kernel) rfl (by decide)]
  rw [zs_aload_n (ls := [some (.ref 82), some (.int x1), some (.int x2)]) zd_218_5 rfl]
  rw [zp_getZ (n := 119) (K := zx_pk (zK L) 119) (σ := (zx_up σ 82 0 0)) (c := 12) (k := 53) (q := 82) (v := (σ 82 53)) zd_218_6 rfl rfl rfl (by decide) (show ((zx_up σ 82 0 0) : zS) 82 53 = (σ 82 53) from ((zx_up_nj (by decide)).trans rfl))]
  by_cases c1 : ¬ (σ 82 53) = 0
  · rw [if_pos c1] at H
    rw [zp_if_ne_t (x := (σ 82 53)) (t := 15) zd_218_9 rfl c1]
    rw [zs_aload_n (ls := [some (.ref 82), some (.int x1), some (.int x2)]) zd_218_15 rfl]
    rw [zs_iload_n (ls := [some (.ref 82), some (.int x1), some (.int x2)]) zd_218_16 rfl]
    obtain ⟨r2, hr2, H⟩ := Option.bind_eq_some_iff.mp H
    rw [zp_callVi (x := r2) (st := [.int x1, .ref 82]) (as := [.ref 82, .int x1]) (rest := []) (e := 1) zd_218_17 rfl (by decide +kernel) (by decide) rfl rfl (Nat.le_of_ble_eq_true rfl) (zx_rcb_ok rfl (show 82 < 119 by decide)) (Nat.le_of_ble_eq_true rfl) rfl (by decide) (zt_M_isState hr2)]
    by_cases c3 : r2 = 0
    · rw [if_pos c3] at H
      rw [zp_if_eq_t (x := r2) (t := 51) zd_218_20 rfl c3]
      rw [zs_bipush (z := (-102)) zd_218_51 (by decide)]
      have H := Option.some.inj H
      subst H
      exact zs_ireturn zd_218_53 (by decide +kernel)
    · rw [if_neg c3] at H
      rw [zp_if_eq_f (x := r2) (t := 51) zd_218_20 rfl c3]
      rw [zs_iload_n (ls := [some (.ref 82), some (.int x1), some (.int x2)]) zd_218_23 rfl]
      rw [zs_iconst (z := 0) zd_218_24 (by decide)]
      rw [zs_aload_n (ls := [some (.ref 82), some (.int x1), some (.int x2)]) zd_218_25 rfl]
      rw [zp_getI (n := 119) (K := zx_pk (zK L) 119) (σ := (zx_up σ 82 0 0)) (c := 12) (k := 15) (q := 82) (v := (σ 82 15)) zd_218_26 rfl rfl rfl (by decide) (show ((zx_up σ 82 0 0) : zS) 82 15 = (σ 82 15) from ((zx_up_nj (by decide)).trans rfl))]
      rw [zs_iconst (z := 1) zd_218_29 (by decide)]
      rw [zp_isub (x := (σ 82 15)) (y := 1) (z := ((σ 82 15) - 1)) zd_218_30 rfl]
      obtain ⟨r4, hr4, H⟩ := Option.bind_eq_some_iff.mp H
      rw [zp_callSi (x := r4) (st := [.int ((σ 82 15) - 1), .int 0, .int x2]) (as := [.int x2, .int 0, .int ((σ 82 15) - 1)]) (rest := []) (e := 0) zd_218_31 rfl (by decide +kernel) (by decide) rfl rfl (Nat.le_of_ble_eq_true rfl) rfl (Nat.le_of_ble_eq_true rfl) rfl (by decide) (zt_M_in hr4)]
      by_cases c5 : r4 = 0
      · rw [if_pos c5] at H
        rw [zp_if_eq_t (x := r4) (t := 51) zd_218_34 rfl c5]
        rw [zs_bipush (z := (-102)) zd_218_51 (by decide)]
        have H := Option.some.inj H
        subst H
        exact zs_ireturn zd_218_53 (by decide +kernel)
      · rw [if_neg c5] at H
        rw [zp_if_eq_f (x := r4) (t := 51) zd_218_34 rfl c5]
        rw [zs_aload_n (ls := [some (.ref 82), some (.int x1), some (.int x2)]) zd_218_37 rfl]
        rw [zs_getR (n := 119) (K := zx_pk (zK L) 119) (ρ := zR) (c := 12) (k := 48) (q := 82) (p := 108) zd_218_38 rfl rfl rfl (by decide) rfl]
        rw [zs_bipush (z := 40) zd_218_41 (by decide)]
        rw [zs_iload_n (ls := [some (.ref 82), some (.int x1), some (.int x2)]) zd_218_43 rfl]
        rw [zp_imul (x := 40) (y := x1) (z := (40 * x1)) zd_218_44 rfl]
        rw [zs_iload_n (ls := [some (.ref 82), some (.int x1), some (.int x2)]) zd_218_45 rfl]
        rw [zp_iadd (x := (40 * x1)) (y := x2) (z := ((40 * x1) + x2)) zd_218_46 rfl]
        by_cases c6 : 0 ≤ ((40 * x1) + x2) ∧ ((40 * x1) + x2) < 320000
        · rw [if_pos c6] at H
          rw [zp_baload (n := 119) (K := zx_pk (zK L) 119) (σ := (zx_up σ 82 0 0)) (q := 108) (m := 320000) (i := ((40 * x1) + x2)) (k := ((40 * x1) + x2).toNatClampNeg) (v := (σ 108 ((40 * x1) + x2).toNatClampNeg)) zd_218_47 rfl (by decide) (zJ_in c6 rfl) rfl (show ((zx_up σ 82 0 0) : zS) 108 ((40 * x1) + x2).toNatClampNeg = (σ 108 ((40 * x1) + x2).toNatClampNeg) from ((zx_up_ne (by decide)).trans rfl))]
          rw [zs_goto (t := 53) zd_218_48 rfl]
          have H := Option.some.inj H
          subst H
          exact zs_ireturn zd_218_53 rfl
        · rw [if_neg c6] at H
          cases H
  · rw [if_neg c1] at H
    rw [zp_if_ne_f (x := (σ 82 53)) (t := 15) zd_218_9 rfl c1]
    rw [zs_bipush (z := (-101)) zd_218_12 (by decide)]
    have H := Option.some.inj H
    subst H
    exact zs_ireturn zd_218_14 (by decide +kernel)
set_option maxRecDepth 20000 in
theorem zt_X_owner {a b L N : Nat} {σ : zS} {τ : zT} {x1 : Int32} {x2 : Int32} {r : Int32 × zS} (H : zf_X_owner N σ x1 x2 = some r) : zx_go 4 219 0 [some (.ref 2), some (.int x1), some (.int x2)] [] ((119, a, b), zx_pk (zK L) 119, σ, τ, zR) = some (some (.int r.1), ((119, a, b), zx_pk (zK L) 119, r.2, τ, zR)) := by
  unfold zf_X_owner at H
  rw [zs_aload_n (ls := [some (.ref 2), some (.int x1), some (.int x2)]) zd_219_0 rfl]
  rw [zp_getZ (n := 119) (K := zx_pk (zK L) 119) (σ := σ) (c := 11) (k := 15) (q := 2) (v := (σ 2 15)) zd_219_1 rfl rfl rfl (by decide) rfl]
  by_cases c1 : ¬ (σ 2 15) = 0
  · rw [if_pos c1] at H
    rw [zp_if_ne_t (x := (σ 2 15)) (t := 10) zd_219_4 rfl c1]
    rw [zs_iload_n (ls := [some (.ref 2), some (.int x1), some (.int x2)]) zd_219_10 rfl]
    by_cases c2 : x2 < 0
    · rw [if_pos c2] at H
      rw [zp_if_lt_t (x := x2) (t := 36) zd_219_11 rfl c2]
      rw [zs_bipush (z := (-102)) zd_219_36 (by decide)]
      have H := Option.some.inj H
      subst H
      exact zs_ireturn zd_219_38 (by decide +kernel)
    · rw [if_neg c2] at H
      rw [zp_if_lt_f (x := x2) (t := 36) zd_219_11 rfl c2]
      rw [zs_iload_n (ls := [some (.ref 2), some (.int x1), some (.int x2)]) zd_219_14 rfl]
      rw [zs_aload_n (ls := [some (.ref 2), some (.int x1), some (.int x2)]) zd_219_15 rfl]
      rw [zs_getR (n := 119) (K := zx_pk (zK L) 119) (ρ := zR) (c := 11) (k := 1) (q := 2) (p := 4) zd_219_16 rfl rfl rfl (by decide) rfl]
      rw [zp_getI (n := 119) (K := zx_pk (zK L) 119) (σ := σ) (c := 6) (k := 1) (q := 4) (v := (σ 4 1)) zd_219_19 rfl rfl rfl (by decide) rfl]
      by_cases c3 : (σ 4 1) ≤ x2
      · rw [if_pos c3] at H
        rw [zp_icmp_ge_t (x := x2) (y := (σ 4 1)) (t := 36) zd_219_22 rfl c3]
        rw [zs_bipush (z := (-102)) zd_219_36 (by decide)]
        have H := Option.some.inj H
        subst H
        exact zs_ireturn zd_219_38 (by decide +kernel)
      · rw [if_neg c3] at H
        rw [zp_icmp_ge_f (x := x2) (y := (σ 4 1)) (t := 36) zd_219_22 rfl c3]
        rw [zs_aload_n (ls := [some (.ref 2), some (.int x1), some (.int x2)]) zd_219_25 rfl]
        rw [zs_getR (n := 119) (K := zx_pk (zK L) 119) (ρ := zR) (c := 11) (k := 4) (q := 2) (p := 41) zd_219_26 rfl rfl rfl (by decide) rfl]
        rw [zs_iload_n (ls := [some (.ref 2), some (.int x1), some (.int x2)]) zd_219_29 rfl]
        obtain ⟨r4, hr4, H⟩ := Option.bind_eq_some_iff.mp H
        rw [zp_callVi (x := r4) (st := [.int x1, .ref 41]) (as := [.ref 41, .int x1]) (rest := []) (e := 0) zd_219_30 rfl (by decide +kernel) (by decide) rfl rfl (Nat.le_of_ble_eq_true rfl) (zx_rcb_ok rfl (show 41 < 119 by decide)) (Nat.le_of_ble_eq_true rfl) rfl (by decide) (zt_Space_has hr4)]
        by_cases c5 : ¬ r4 = 0
        · rw [if_pos c5] at H
          rw [zp_if_ne_t (x := r4) (t := 39) zd_219_33 rfl c5]
          rw [zs_aload_n (ls := [some (.ref 2), some (.int x1), some (.int x2)]) zd_219_39 rfl]
          rw [zs_getR (n := 119) (K := zx_pk (zK L) 119) (ρ := zR) (c := 11) (k := 4) (q := 2) (p := 41) zd_219_40 rfl rfl rfl (by decide) rfl]
          rw [zs_iload_n (ls := [some (.ref 2), some (.int x1), some (.int x2)]) zd_219_43 rfl]
          obtain ⟨r6, hr6, H⟩ := Option.bind_eq_some_iff.mp H
          rw [zp_callVv (st := [.int x1, .ref 41]) (as := [.ref 41, .int x1]) (rest := []) (e := 3) zd_219_44 rfl (by decide +kernel) (by decide) rfl rfl (Nat.le_of_ble_eq_true rfl) (zx_rcb_ok rfl (show 41 < 119 by decide)) (Nat.le_of_ble_eq_true rfl) rfl (by decide) (zt_Space_load hr6)]
          rw [zs_aload_n (ls := [some (.ref 2), some (.int x1), some (.int x2)]) zd_219_47 rfl]
          rw [zs_getR (n := 119) (K := zx_pk (zK L) 119) (ρ := zR) (c := 11) (k := 3) (q := 2) (p := 35) zd_219_48 rfl rfl rfl (by decide) rfl]
          rw [zs_iload_n (ls := [some (.ref 2), some (.int x1), some (.int x2)]) zd_219_51 rfl]
          obtain ⟨r7, hr7, H⟩ := Option.bind_eq_some_iff.mp H
          rw [zp_callVi (x := r7) (st := [.int x2, .ref 35]) (as := [.ref 35, .int x2]) (rest := []) (e := 0) zd_219_52 rfl (by decide +kernel) (by decide) rfl rfl (Nat.le_of_ble_eq_true rfl) (zx_rcb_ok rfl (show 35 < 119 by decide)) (Nat.le_of_ble_eq_true rfl) rfl (by decide) (zt_Machine_ownerOf hr7)]
          have H := Option.some.inj H
          subst H
          exact zs_ireturn zd_219_55 rfl
        · rw [if_neg c5] at H
          rw [zp_if_ne_f (x := r4) (t := 39) zd_219_33 rfl c5]
          rw [zs_bipush (z := (-102)) zd_219_36 (by decide)]
          have H := Option.some.inj H
          subst H
          exact zs_ireturn zd_219_38 (by decide +kernel)
  · rw [if_neg c1] at H
    rw [zp_if_ne_f (x := (σ 2 15)) (t := 10) zd_219_4 rfl c1]
    rw [zs_bipush (z := (-101)) zd_219_7 (by decide)]
    have H := Option.some.inj H
    subst H
    exact zs_ireturn zd_219_9 (by decide +kernel)
set_option maxRecDepth 20000 in
theorem zt_M_owner {a b L : Nat} {σ : zS} {τ : zT} {x1 : Int32} {x2 : Int32} {r : Int32 × zS} (H : zf_M_owner σ x1 x2 = some r) : zx_go 2 220 0 [some (.ref 82), some (.int x1), some (.int x2)] [] ((119, a, b), zx_pk (zK L) 119, σ, τ, zR) = some (some (.int r.1), ((119, a, b), zx_pk (zK L) 119, r.2, τ, zR)) := by
  unfold zf_M_owner at H
  rw [zs_aload_n (ls := [some (.ref 82), some (.int x1), some (.int x2)]) zd_220_0 rfl]
  rw [zs_iconst (z := 0) zd_220_1 (by decide)]
  rw [zs_putI (n := 119) (K := zx_pk (zK L) 119) (c := 12) (k := 0) (q := 82) (x := 0) zd_220_2 rfl rfl (by decide +kernel) rfl (by decide)]
  rw [zs_aload_n (ls := [some (.ref 82), some (.int x1), some (.int x2)]) zd_220_5 rfl]
  rw [zp_getZ (n := 119) (K := zx_pk (zK L) 119) (σ := (zx_up σ 82 0 0)) (c := 12) (k := 53) (q := 82) (v := (σ 82 53)) zd_220_6 rfl rfl rfl (by decide) (show ((zx_up σ 82 0 0) : zS) 82 53 = (σ 82 53) from ((zx_up_nj (by decide)).trans rfl))]
  by_cases c1 : ¬ (σ 82 53) = 0
  · rw [if_pos c1] at H
    rw [zp_if_ne_t (x := (σ 82 53)) (t := 15) zd_220_9 rfl c1]
    rw [zs_aload_n (ls := [some (.ref 82), some (.int x1), some (.int x2)]) zd_220_15 rfl]
    rw [zs_iload_n (ls := [some (.ref 82), some (.int x1), some (.int x2)]) zd_220_16 rfl]
    obtain ⟨r2, hr2, H⟩ := Option.bind_eq_some_iff.mp H
    rw [zp_callVi (x := r2) (st := [.int x1, .ref 82]) (as := [.ref 82, .int x1]) (rest := []) (e := 1) zd_220_17 rfl (by decide +kernel) (by decide) rfl rfl (Nat.le_of_ble_eq_true rfl) (zx_rcb_ok rfl (show 82 < 119 by decide)) (Nat.le_of_ble_eq_true rfl) rfl (by decide) (zt_M_isState hr2)]
    by_cases c3 : r2 = 0
    · rw [if_pos c3] at H
      rw [zp_if_eq_t (x := r2) (t := 56) zd_220_20 rfl c3]
      rw [zs_bipush (z := (-102)) zd_220_56 (by decide)]
      have H := Option.some.inj H
      subst H
      exact zs_ireturn zd_220_58 (by decide +kernel)
    · rw [if_neg c3] at H
      rw [zp_if_eq_f (x := r2) (t := 56) zd_220_20 rfl c3]
      rw [zs_iload_n (ls := [some (.ref 82), some (.int x1), some (.int x2)]) zd_220_23 rfl]
      rw [zs_iconst (z := 0) zd_220_24 (by decide)]
      rw [zs_aload_n (ls := [some (.ref 82), some (.int x1), some (.int x2)]) zd_220_25 rfl]
      rw [zp_getI (n := 119) (K := zx_pk (zK L) 119) (σ := (zx_up σ 82 0 0)) (c := 12) (k := 16) (q := 82) (v := (σ 82 16)) zd_220_26 rfl rfl rfl (by decide) (show ((zx_up σ 82 0 0) : zS) 82 16 = (σ 82 16) from ((zx_up_nj (by decide)).trans rfl))]
      rw [zs_iconst (z := 1) zd_220_29 (by decide)]
      rw [zp_isub (x := (σ 82 16)) (y := 1) (z := ((σ 82 16) - 1)) zd_220_30 rfl]
      obtain ⟨r4, hr4, H⟩ := Option.bind_eq_some_iff.mp H
      rw [zp_callSi (x := r4) (st := [.int ((σ 82 16) - 1), .int 0, .int x2]) (as := [.int x2, .int 0, .int ((σ 82 16) - 1)]) (rest := []) (e := 0) zd_220_31 rfl (by decide +kernel) (by decide) rfl rfl (Nat.le_of_ble_eq_true rfl) rfl (Nat.le_of_ble_eq_true rfl) rfl (by decide) (zt_M_in hr4)]
      by_cases c5 : r4 = 0
      · rw [if_pos c5] at H
        rw [zp_if_eq_t (x := r4) (t := 56) zd_220_34 rfl c5]
        rw [zs_bipush (z := (-102)) zd_220_56 (by decide)]
        have H := Option.some.inj H
        subst H
        exact zs_ireturn zd_220_58 (by decide +kernel)
      · rw [if_neg c5] at H
        rw [zp_if_eq_f (x := r4) (t := 56) zd_220_34 rfl c5]
        rw [zs_aload_n (ls := [some (.ref 82), some (.int x1), some (.int x2)]) zd_220_37 rfl]
        rw [zs_getR (n := 119) (K := zx_pk (zK L) 119) (ρ := zR) (c := 12) (k := 48) (q := 82) (p := 108) zd_220_38 rfl rfl rfl (by decide) rfl]
        rw [zs_bipush (z := 40) zd_220_41 (by decide)]
        rw [zs_iload_n (ls := [some (.ref 82), some (.int x1), some (.int x2)]) zd_220_43 rfl]
        rw [zp_imul (x := 40) (y := x1) (z := (40 * x1)) zd_220_44 rfl]
        rw [zs_bipush (z := 6) zd_220_45 (by decide)]
        rw [zp_iadd (x := (40 * x1)) (y := 6) (z := ((40 * x1) + 6)) zd_220_47 rfl]
        rw [zs_iload_n (ls := [some (.ref 82), some (.int x1), some (.int x2)]) zd_220_48 rfl]
        rw [zp_iadd (x := ((40 * x1) + 6)) (y := x2) (z := (((40 * x1) + 6) + x2)) zd_220_49 rfl]
        by_cases c6 : 0 ≤ (((40 * x1) + 6) + x2) ∧ (((40 * x1) + 6) + x2) < 320000
        · rw [if_pos c6] at H
          rw [zp_baload (n := 119) (K := zx_pk (zK L) 119) (σ := (zx_up σ 82 0 0)) (q := 108) (m := 320000) (i := (((40 * x1) + 6) + x2)) (k := (((40 * x1) + 6) + x2).toNatClampNeg) (v := (σ 108 (((40 * x1) + 6) + x2).toNatClampNeg)) zd_220_50 rfl (by decide) (zJ_in c6 rfl) rfl (show ((zx_up σ 82 0 0) : zS) 108 (((40 * x1) + 6) + x2).toNatClampNeg = (σ 108 (((40 * x1) + 6) + x2).toNatClampNeg) from ((zx_up_ne (by decide)).trans rfl))]
          rw [zs_iconst (z := 1) zd_220_51 (by decide)]
          rw [zp_isub (x := (σ 108 (((40 * x1) + 6) + x2).toNatClampNeg)) (y := 1) (z := ((σ 108 (((40 * x1) + 6) + x2).toNatClampNeg) - 1)) zd_220_52 rfl]
          rw [zs_goto (t := 58) zd_220_53 rfl]
          have H := Option.some.inj H
          subst H
          exact zs_ireturn zd_220_58 rfl
        · rw [if_neg c6] at H
          cases H
  · rw [if_neg c1] at H
    rw [zp_if_ne_f (x := (σ 82 53)) (t := 15) zd_220_9 rfl c1]
    rw [zs_bipush (z := (-101)) zd_220_12 (by decide)]
    have H := Option.some.inj H
    subst H
    exact zs_ireturn zd_220_14 (by decide +kernel)
set_option maxRecDepth 20000 in
theorem zt_Machine_blockerOf {a b L : Nat} {σ : zS} {τ : zT} {x1 : Int32} {r : Int32} (H : zf_Machine_blockerOf σ x1 = some r) : zx_go 1 223 0 [some (.ref 35), some (.int x1), none, none] [] ((119, a, b), zx_pk (zK L) 119, σ, τ, zR) = some (some (.int r), ((119, a, b), zx_pk (zK L) 119, σ, τ, zR)) := by
  unfold zf_Machine_blockerOf at H
  rw [zs_aload_n (ls := [some (.ref 35), some (.int x1), none, none]) zd_223_0 rfl]
  rw [zs_iload_n (ls := [some (.ref 35), some (.int x1), none, none]) zd_223_1 rfl]
  obtain ⟨r1, hr1, H⟩ := Option.bind_eq_some_iff.mp H
  rw [zp_callVi (x := r1) (st := [.int x1, .ref 35]) (as := [.ref 35, .int x1]) (rest := []) (e := 0) zd_223_2 rfl (by decide +kernel) (by decide) rfl rfl (Nat.le_of_ble_eq_true rfl) (zx_rcb_ok rfl (show 35 < 119 by decide)) (Nat.le_of_ble_eq_true rfl) rfl (by decide) (zt_Machine_slotOf hr1)]
  rw [zs_istore_n (x := r1) (ls' := [some (.ref 35), some (.int x1), some (.int r1), none]) zd_223_5 (Nat.le_of_ble_eq_true rfl) rfl]
  rw [zs_aload_n (ls := [some (.ref 35), some (.int x1), some (.int r1), none]) zd_223_6 rfl]
  rw [zs_iload_n (ls := [some (.ref 35), some (.int x1), some (.int r1), none]) zd_223_7 rfl]
  obtain ⟨r2, hr2, H⟩ := Option.bind_eq_some_iff.mp H
  rw [zp_callVi (x := r2) (st := [.int x1, .ref 35]) (as := [.ref 35, .int x1]) (rest := []) (e := 0) zd_223_8 rfl (by decide +kernel) (by decide) rfl rfl (Nat.le_of_ble_eq_true rfl) (zx_rcb_ok rfl (show 35 < 119 by decide)) (Nat.le_of_ble_eq_true rfl) rfl (by decide) (zt_Machine_howOf hr2)]
  rw [zs_iconst (z := 1) zd_223_11 (by decide)]
  by_cases c3 : ¬ r2 = 1
  · rw [if_pos c3] at H
    rw [zp_icmp_ne_t (x := r2) (y := 1) (t := 28) zd_223_12 rfl c3]
    rw [zs_iconst (z := (-1)) zd_223_28 (by decide)]
    have H := Option.some.inj H
    subst H
    exact zs_ireturn zd_223_29 (by decide +kernel)
  · rw [if_neg c3] at H
    rw [zp_icmp_ne_f (x := r2) (y := 1) (t := 28) zd_223_12 rfl c3]
    rw [zs_aload_n (ls := [some (.ref 35), some (.int x1), some (.int r1), none]) zd_223_15 rfl]
    rw [zs_getR (n := 119) (K := zx_pk (zK L) 119) (ρ := zR) (c := 2) (k := 0) (q := 35) (p := 4) zd_223_16 rfl rfl rfl (by decide) rfl]
    rw [zs_getR (n := 119) (K := zx_pk (zK L) 119) (ρ := zR) (c := 6) (k := 9) (q := 4) (p := 7) zd_223_19 rfl rfl rfl (by decide) rfl]
    rw [zs_iload_n (ls := [some (.ref 35), some (.int x1), some (.int r1), none]) zd_223_22 rfl]
    by_cases c4 : 0 ≤ r1 ∧ r1 < 97
    · rw [if_pos c4] at H
      rw [zp_iaload (n := 119) (K := zx_pk (zK L) 119) (σ := σ) (q := 7) (m := 97) (i := r1) (k := r1.toNatClampNeg) (v := (σ 7 r1.toNatClampNeg)) zd_223_23 rfl (by decide) (zJ_in c4 rfl) rfl rfl]
      rw [zs_iconst (z := 3) zd_223_24 (by decide)]
      by_cases c5 : (σ 7 r1.toNatClampNeg) = 3
      · rw [if_pos c5] at H
        rw [zp_icmp_eq_t (x := (σ 7 r1.toNatClampNeg)) (y := 3) (t := 30) zd_223_25 rfl c5]
        rw [zs_aload_n (ls := [some (.ref 35), some (.int x1), some (.int r1), none]) zd_223_30 rfl]
        rw [zs_aload_n (ls := [some (.ref 35), some (.int x1), some (.int r1), none]) zd_223_31 rfl]
        rw [zs_getR (n := 119) (K := zx_pk (zK L) 119) (ρ := zR) (c := 2) (k := 0) (q := 35) (p := 4) zd_223_32 rfl rfl rfl (by decide) rfl]
        rw [zs_getR (n := 119) (K := zx_pk (zK L) 119) (ρ := zR) (c := 6) (k := 10) (q := 4) (p := 8) zd_223_35 rfl rfl rfl (by decide) rfl]
        rw [zs_iload_n (ls := [some (.ref 35), some (.int x1), some (.int r1), none]) zd_223_38 rfl]
        by_cases c6 : 0 ≤ r1 ∧ r1 < 97
        · rw [if_pos c6] at H
          rw [zp_iaload (n := 119) (K := zx_pk (zK L) 119) (σ := σ) (q := 8) (m := 97) (i := r1) (k := r1.toNatClampNeg) (v := (σ 8 r1.toNatClampNeg)) zd_223_39 rfl (by decide) (zJ_in c6 rfl) rfl rfl]
          obtain ⟨r7, hr7, H⟩ := Option.bind_eq_some_iff.mp H
          rw [zp_callVi (x := r7) (st := [.int (σ 8 r1.toNatClampNeg), .ref 35]) (as := [.ref 35, .int (σ 8 r1.toNatClampNeg)]) (rest := []) (e := 0) zd_223_40 rfl (by decide +kernel) (by decide) rfl rfl (Nat.le_of_ble_eq_true rfl) (zx_rcb_ok rfl (show 35 < 119 by decide)) (Nat.le_of_ble_eq_true rfl) rfl (by decide) (zt_Machine_ownerOf hr7)]
          rw [zs_istore_n (x := r7) (ls' := [some (.ref 35), some (.int x1), some (.int r1), some (.int r7)]) zd_223_43 (Nat.le_of_ble_eq_true rfl) rfl]
          rw [zs_iload_n (ls := [some (.ref 35), some (.int x1), some (.int r1), some (.int r7)]) zd_223_44 rfl]
          rw [zs_iload_n (ls := [some (.ref 35), some (.int x1), some (.int r1), some (.int r7)]) zd_223_45 rfl]
          by_cases c8 : ¬ r7 = x1
          · rw [if_pos c8] at H
            rw [zp_icmp_ne_t (x := r7) (y := x1) (t := 53) zd_223_46 rfl c8]
            rw [zs_iload_n (ls := [some (.ref 35), some (.int x1), some (.int r1), some (.int r7)]) zd_223_53 rfl]
            have H := Option.some.inj H
            subst H
            exact zs_ireturn zd_223_54 rfl
          · rw [if_neg c8] at H
            rw [zp_icmp_ne_f (x := r7) (y := x1) (t := 53) zd_223_46 rfl c8]
            rw [zs_iconst (z := (-1)) zd_223_49 (by decide)]
            rw [zs_goto (t := 54) zd_223_50 rfl]
            have H := Option.some.inj H
            subst H
            exact zs_ireturn zd_223_54 (by decide +kernel)
        · rw [if_neg c6] at H
          cases H
      · rw [if_neg c5] at H
        rw [zp_icmp_eq_f (x := (σ 7 r1.toNatClampNeg)) (y := 3) (t := 30) zd_223_25 rfl c5]
        rw [zs_iconst (z := (-1)) zd_223_28 (by decide)]
        have H := Option.some.inj H
        subst H
        exact zs_ireturn zd_223_29 (by decide +kernel)
    · rw [if_neg c4] at H
      cases H
set_option maxRecDepth 20000 in
theorem zt_Machine_hasRing_50 {a b L N : Nat} {k2 : zS → Int32 → Option (Int32)} (hk2 : ∀ {σ : zS} {τ : zT} {v1 : Int32} {o2 : Option Value} {o3 : Option Value} {r : Int32}, k2 σ v1 = some r → zx_go 2 222 2 [some (.ref 35), some (.int v1), o2, o3] [] ((119, a, b), zx_pk (zK L) 119, σ, τ, zR) = some (some (.int r), ((119, a, b), zx_pk (zK L) 119, σ, τ, zR))) {σ : zS} {τ : zT} {v1 : Int32} {o2 : Option Value} {o3 : Option Value} {r : Int32} (H : zb_Machine_hasRing_50 k2 N σ v1 = some r) : zx_go 2 222 50 [some (.ref 35), some (.int v1), o2, o3] [] ((119, a, b), zx_pk (zK L) 119, σ, τ, zR) = some (some (.int r), ((119, a, b), zx_pk (zK L) 119, σ, τ, zR)) := by
  unfold zb_Machine_hasRing_50 at H
  rw [zs_iinc (ls := [some (.ref 35), some (.int v1), o2, o3]) (x := v1) (z := (v1 + 1)) (ls' := [some (.ref 35), some (.int (v1 + 1)), o2, o3]) zd_222_50 rfl rfl rfl]
  rw [zs_goto (t := 2) zd_222_53 rfl]
  exact hk2 H
set_option maxRecDepth 20000 in
theorem zt_Machine_hasRing_21 {a b L N : Nat} {k2 : zS → Int32 → Option (Int32)} (hk2 : ∀ {σ : zS} {τ : zT} {v1 : Int32} {o2 : Option Value} {o3 : Option Value} {r : Int32}, k2 σ v1 = some r → zx_go 2 222 2 [some (.ref 35), some (.int v1), o2, o3] [] ((119, a, b), zx_pk (zK L) 119, σ, τ, zR) = some (some (.int r), ((119, a, b), zx_pk (zK L) 119, σ, τ, zR))) : ∀ {n : Nat} {σ : zS} {τ : zT} {v1 : Int32} {v2 : Int32} {v3 : Int32} {r : Int32}, zb_Machine_hasRing_21 k2 N n σ v1 v2 v3 = some r → zx_go 2 222 21 [some (.ref 35), some (.int v1), some (.int v2), some (.int v3)] [] ((119, a, b), zx_pk (zK L) 119, σ, τ, zR) = some (some (.int r), ((119, a, b), zx_pk (zK L) 119, σ, τ, zR)) := by
  intro n
  induction n with
  | zero =>
    intro _ _ _ _ _ _ H
    cases H
  | succ n ih =>
    intro σ τ v1 v2 v3 r H
    rw [zb_Machine_hasRing_21] at H
    rw [zs_iload_n (ls := [some (.ref 35), some (.int v1), some (.int v2), some (.int v3)]) zd_222_21 rfl]
    rw [zs_iconst (z := 4) zd_222_22 (by decide)]
    by_cases c3 : 4 ≤ v3
    · rw [if_pos c3] at H
      rw [zp_icmp_ge_t (x := v3) (y := 4) (t := 50) zd_222_23 rfl c3]
      exact zt_Machine_hasRing_50 (hk2 := hk2) H
    · rw [if_neg c3] at H
      rw [zp_icmp_ge_f (x := v3) (y := 4) (t := 50) zd_222_23 rfl c3]
      rw [zs_iload_n (ls := [some (.ref 35), some (.int v1), some (.int v2), some (.int v3)]) zd_222_26 rfl]
      rw [zs_iconst (z := (-1)) zd_222_27 (by decide)]
      by_cases c4 : v2 = (-1)
      · rw [if_pos c4] at H
        rw [zp_icmp_eq_t (x := v2) (y := (-1)) (t := 50) zd_222_28 rfl c4]
        exact zt_Machine_hasRing_50 (hk2 := hk2) H
      · rw [if_neg c4] at H
        rw [zp_icmp_eq_f (x := v2) (y := (-1)) (t := 50) zd_222_28 rfl c4]
        rw [zs_iload_n (ls := [some (.ref 35), some (.int v1), some (.int v2), some (.int v3)]) zd_222_31 rfl]
        rw [zs_iload_n (ls := [some (.ref 35), some (.int v1), some (.int v2), some (.int v3)]) zd_222_32 rfl]
        by_cases c5 : ¬ v2 = v1
        · rw [if_pos c5] at H
          rw [zp_icmp_ne_t (x := v2) (y := v1) (t := 38) zd_222_33 rfl c5]
          rw [zs_aload_n (ls := [some (.ref 35), some (.int v1), some (.int v2), some (.int v3)]) zd_222_38 rfl]
          rw [zs_iload_n (ls := [some (.ref 35), some (.int v1), some (.int v2), some (.int v3)]) zd_222_39 rfl]
          obtain ⟨r6, hr6, H⟩ := Option.bind_eq_some_iff.mp H
          rw [zp_callVi (x := r6) (st := [.int v2, .ref 35]) (as := [.ref 35, .int v2]) (rest := []) (e := 1) zd_222_40 rfl (by decide +kernel) (by decide) rfl rfl (Nat.le_of_ble_eq_true rfl) (zx_rcb_ok rfl (show 35 < 119 by decide)) (Nat.le_of_ble_eq_true rfl) rfl (by decide) (zt_Machine_blockerOf hr6)]
          rw [zs_istore_n (x := r6) (ls' := [some (.ref 35), some (.int v1), some (.int r6), some (.int v3)]) zd_222_43 (Nat.le_of_ble_eq_true rfl) rfl]
          rw [zs_iinc (ls := [some (.ref 35), some (.int v1), some (.int r6), some (.int v3)]) (x := v3) (z := (v3 + 1)) (ls' := [some (.ref 35), some (.int v1), some (.int r6), some (.int (v3 + 1))]) zd_222_44 rfl rfl rfl]
          rw [zs_goto (t := 21) zd_222_47 rfl]
          exact ih H
        · rw [if_neg c5] at H
          rw [zp_icmp_ne_f (x := v2) (y := v1) (t := 38) zd_222_33 rfl c5]
          rw [zs_iconst (z := 1) zd_222_36 (by decide)]
          have H := Option.some.inj H
          subst H
          exact zs_ireturn zd_222_37 (by decide +kernel)
set_option maxRecDepth 20000 in
theorem zt_Machine_hasRing_2 {a b L N : Nat} : ∀ {n : Nat} {σ : zS} {τ : zT} {v1 : Int32} {o2 : Option Value} {o3 : Option Value} {r : Int32}, zb_Machine_hasRing_2 N n σ v1 = some r → zx_go 2 222 2 [some (.ref 35), some (.int v1), o2, o3] [] ((119, a, b), zx_pk (zK L) 119, σ, τ, zR) = some (some (.int r), ((119, a, b), zx_pk (zK L) 119, σ, τ, zR)) := by
  intro n
  induction n with
  | zero =>
    intro _ _ _ _ _ _ H
    cases H
  | succ n ih =>
    intro σ τ v1 o2 o3 r H
    rw [zb_Machine_hasRing_2] at H
    rw [zs_iload_n (ls := [some (.ref 35), some (.int v1), o2, o3]) zd_222_2 rfl]
    rw [zs_aload_n (ls := [some (.ref 35), some (.int v1), o2, o3]) zd_222_3 rfl]
    rw [zs_getR (n := 119) (K := zx_pk (zK L) 119) (ρ := zR) (c := 2) (k := 0) (q := 35) (p := 4) zd_222_4 rfl rfl rfl (by decide) rfl]
    rw [zp_getI (n := 119) (K := zx_pk (zK L) 119) (σ := σ) (c := 6) (k := 2) (q := 4) (v := (σ 4 2)) zd_222_7 rfl rfl rfl (by decide) rfl]
    by_cases c1 : (σ 4 2) ≤ v1
    · rw [if_pos c1] at H
      rw [zp_icmp_ge_t (x := v1) (y := (σ 4 2)) (t := 56) zd_222_10 rfl c1]
      rw [zs_iconst (z := 0) zd_222_56 (by decide)]
      have H := Option.some.inj H
      subst H
      exact zs_ireturn zd_222_57 (by decide +kernel)
    · rw [if_neg c1] at H
      rw [zp_icmp_ge_f (x := v1) (y := (σ 4 2)) (t := 56) zd_222_10 rfl c1]
      rw [zs_aload_n (ls := [some (.ref 35), some (.int v1), o2, o3]) zd_222_13 rfl]
      rw [zs_iload_n (ls := [some (.ref 35), some (.int v1), o2, o3]) zd_222_14 rfl]
      obtain ⟨r2, hr2, H⟩ := Option.bind_eq_some_iff.mp H
      rw [zp_callVi (x := r2) (st := [.int v1, .ref 35]) (as := [.ref 35, .int v1]) (rest := []) (e := 1) zd_222_15 rfl (by decide +kernel) (by decide) rfl rfl (Nat.le_of_ble_eq_true rfl) (zx_rcb_ok rfl (show 35 < 119 by decide)) (Nat.le_of_ble_eq_true rfl) rfl (by decide) (zt_Machine_blockerOf hr2)]
      rw [zs_istore_n (x := r2) (ls' := [some (.ref 35), some (.int v1), some (.int r2), o3]) zd_222_18 (Nat.le_of_ble_eq_true rfl) rfl]
      rw [zs_iconst (z := 0) zd_222_19 (by decide)]
      rw [zs_istore_n (x := 0) (ls' := [some (.ref 35), some (.int v1), some (.int r2), some (.int 0)]) zd_222_20 (Nat.le_of_ble_eq_true rfl) rfl]
      exact zt_Machine_hasRing_21 (hk2 := ih) H
set_option maxRecDepth 20000 in
theorem zt_Machine_hasRing {a b L N : Nat} {σ : zS} {τ : zT} {r : Int32} (H : zf_Machine_hasRing N σ = some r) : zx_go 2 222 0 [some (.ref 35), none, none, none] [] ((119, a, b), zx_pk (zK L) 119, σ, τ, zR) = some (some (.int r), ((119, a, b), zx_pk (zK L) 119, σ, τ, zR)) := by
  unfold zf_Machine_hasRing at H
  rw [zs_iconst (z := 0) zd_222_0 (by decide)]
  rw [zs_istore_n (x := 0) (ls' := [some (.ref 35), some (.int 0), none, none]) zd_222_1 (Nat.le_of_ble_eq_true rfl) rfl]
  exact zt_Machine_hasRing_2  H
set_option maxRecDepth 20000 in
theorem zt_Machine_onlyWaits_32 {a b L N : Nat} {k2 : zS → Int32 → Option (Int32)} (hk2 : ∀ {σ : zS} {τ : zT} {v1 : Int32} {r : Int32}, k2 σ v1 = some r → zx_go 2 224 2 [some (.ref 35), some (.int v1)] [] ((119, a, b), zx_pk (zK L) 119, σ, τ, zR) = some (some (.int r), ((119, a, b), zx_pk (zK L) 119, σ, τ, zR))) {σ : zS} {τ : zT} {v1 : Int32} {r : Int32} (H : zb_Machine_onlyWaits_32 k2 N σ v1 = some r) : zx_go 2 224 32 [some (.ref 35), some (.int v1)] [] ((119, a, b), zx_pk (zK L) 119, σ, τ, zR) = some (some (.int r), ((119, a, b), zx_pk (zK L) 119, σ, τ, zR)) := by
  unfold zb_Machine_onlyWaits_32 at H
  rw [zs_iinc (ls := [some (.ref 35), some (.int v1)]) (x := v1) (z := (v1 + 1)) (ls' := [some (.ref 35), some (.int (v1 + 1))]) zd_224_32 rfl rfl rfl]
  rw [zs_goto (t := 2) zd_224_35 rfl]
  exact hk2 H
set_option maxRecDepth 20000 in
theorem zt_Machine_onlyWaits_2 {a b L N : Nat} : ∀ {n : Nat} {σ : zS} {τ : zT} {v1 : Int32} {r : Int32}, zb_Machine_onlyWaits_2 N n σ v1 = some r → zx_go 2 224 2 [some (.ref 35), some (.int v1)] [] ((119, a, b), zx_pk (zK L) 119, σ, τ, zR) = some (some (.int r), ((119, a, b), zx_pk (zK L) 119, σ, τ, zR)) := by
  intro n
  induction n with
  | zero =>
    intro _ _ _ _ H
    cases H
  | succ n ih =>
    intro σ τ v1 r H
    rw [zb_Machine_onlyWaits_2] at H
    rw [zs_iload_n (ls := [some (.ref 35), some (.int v1)]) zd_224_2 rfl]
    rw [zs_aload_n (ls := [some (.ref 35), some (.int v1)]) zd_224_3 rfl]
    rw [zs_getR (n := 119) (K := zx_pk (zK L) 119) (ρ := zR) (c := 2) (k := 0) (q := 35) (p := 4) zd_224_4 rfl rfl rfl (by decide) rfl]
    rw [zp_getI (n := 119) (K := zx_pk (zK L) 119) (σ := σ) (c := 6) (k := 2) (q := 4) (v := (σ 4 2)) zd_224_7 rfl rfl rfl (by decide) rfl]
    by_cases c1 : (σ 4 2) ≤ v1
    · rw [if_pos c1] at H
      rw [zp_icmp_ge_t (x := v1) (y := (σ 4 2)) (t := 38) zd_224_10 rfl c1]
      rw [zs_iconst (z := 1) zd_224_38 (by decide)]
      have H := Option.some.inj H
      subst H
      exact zs_ireturn zd_224_39 (by decide +kernel)
    · rw [if_neg c1] at H
      rw [zp_icmp_ge_f (x := v1) (y := (σ 4 2)) (t := 38) zd_224_10 rfl c1]
      rw [zs_aload_n (ls := [some (.ref 35), some (.int v1)]) zd_224_13 rfl]
      rw [zs_iload_n (ls := [some (.ref 35), some (.int v1)]) zd_224_14 rfl]
      obtain ⟨r2, hr2, H⟩ := Option.bind_eq_some_iff.mp H
      rw [zp_callVi (x := r2) (st := [.int v1, .ref 35]) (as := [.ref 35, .int v1]) (rest := []) (e := 1) zd_224_15 rfl (by decide +kernel) (by decide) rfl rfl (Nat.le_of_ble_eq_true rfl) (zx_rcb_ok rfl (show 35 < 119 by decide)) (Nat.le_of_ble_eq_true rfl) rfl (by decide) (zt_Machine_isGone hr2)]
      by_cases c3 : ¬ r2 = 0
      · rw [if_pos c3] at H
        rw [zp_if_ne_t (x := r2) (t := 32) zd_224_18 rfl c3]
        exact zt_Machine_onlyWaits_32 (hk2 := ih) H
      · rw [if_neg c3] at H
        rw [zp_if_ne_f (x := r2) (t := 32) zd_224_18 rfl c3]
        rw [zs_aload_n (ls := [some (.ref 35), some (.int v1)]) zd_224_21 rfl]
        rw [zs_iload_n (ls := [some (.ref 35), some (.int v1)]) zd_224_22 rfl]
        obtain ⟨r4, hr4, H⟩ := Option.bind_eq_some_iff.mp H
        rw [zp_callVi (x := r4) (st := [.int v1, .ref 35]) (as := [.ref 35, .int v1]) (rest := []) (e := 0) zd_224_23 rfl (by decide +kernel) (by decide) rfl rfl (Nat.le_of_ble_eq_true rfl) (zx_rcb_ok rfl (show 35 < 119 by decide)) (Nat.le_of_ble_eq_true rfl) rfl (by decide) (zt_Machine_howOf hr4)]
        rw [zs_iconst (z := 2) zd_224_26 (by decide)]
        by_cases c5 : r4 = 2
        · rw [if_pos c5] at H
          rw [zp_icmp_eq_t (x := r4) (y := 2) (t := 32) zd_224_27 rfl c5]
          exact zt_Machine_onlyWaits_32 (hk2 := ih) H
        · rw [if_neg c5] at H
          rw [zp_icmp_eq_f (x := r4) (y := 2) (t := 32) zd_224_27 rfl c5]
          rw [zs_iconst (z := 0) zd_224_30 (by decide)]
          have H := Option.some.inj H
          subst H
          exact zs_ireturn zd_224_31 (by decide +kernel)
set_option maxRecDepth 20000 in
theorem zt_Machine_onlyWaits {a b L N : Nat} {σ : zS} {τ : zT} {r : Int32} (H : zf_Machine_onlyWaits N σ = some r) : zx_go 2 224 0 [some (.ref 35), none] [] ((119, a, b), zx_pk (zK L) 119, σ, τ, zR) = some (some (.int r), ((119, a, b), zx_pk (zK L) 119, σ, τ, zR)) := by
  unfold zf_Machine_onlyWaits at H
  rw [zs_iconst (z := 0) zd_224_0 (by decide)]
  rw [zs_istore_n (x := 0) (ls' := [some (.ref 35), some (.int 0)]) zd_224_1 (Nat.le_of_ble_eq_true rfl) rfl]
  exact zt_Machine_onlyWaits_2  H
set_option maxRecDepth 20000 in
theorem zt_X_stuck {a b L N : Nat} {σ : zS} {τ : zT} {x1 : Int32} {r : Int32 × zS} (H : zf_X_stuck N σ x1 = some r) : zx_go 4 221 0 [some (.ref 2), some (.int x1)] [] ((119, a, b), zx_pk (zK L) 119, σ, τ, zR) = some (some (.int r.1), ((119, a, b), zx_pk (zK L) 119, r.2, τ, zR)) := by
  unfold zf_X_stuck at H
  rw [zs_aload_n (ls := [some (.ref 2), some (.int x1)]) zd_221_0 rfl]
  rw [zp_getZ (n := 119) (K := zx_pk (zK L) 119) (σ := σ) (c := 11) (k := 15) (q := 2) (v := (σ 2 15)) zd_221_1 rfl rfl rfl (by decide) rfl]
  by_cases c1 : ¬ (σ 2 15) = 0
  · rw [if_pos c1] at H
    rw [zp_if_ne_t (x := (σ 2 15)) (t := 10) zd_221_4 rfl c1]
    rw [zs_aload_n (ls := [some (.ref 2), some (.int x1)]) zd_221_10 rfl]
    rw [zs_getR (n := 119) (K := zx_pk (zK L) 119) (ρ := zR) (c := 11) (k := 4) (q := 2) (p := 41) zd_221_11 rfl rfl rfl (by decide) rfl]
    rw [zs_iload_n (ls := [some (.ref 2), some (.int x1)]) zd_221_14 rfl]
    obtain ⟨r2, hr2, H⟩ := Option.bind_eq_some_iff.mp H
    rw [zp_callVi (x := r2) (st := [.int x1, .ref 41]) (as := [.ref 41, .int x1]) (rest := []) (e := 0) zd_221_15 rfl (by decide +kernel) (by decide) rfl rfl (Nat.le_of_ble_eq_true rfl) (zx_rcb_ok rfl (show 41 < 119 by decide)) (Nat.le_of_ble_eq_true rfl) rfl (by decide) (zt_Space_has hr2)]
    by_cases c3 : r2 = 0
    · rw [if_pos c3] at H
      rw [zp_if_eq_t (x := r2) (t := 32) zd_221_18 rfl c3]
      rw [zs_bipush (z := (-102)) zd_221_32 (by decide)]
      have H := Option.some.inj H
      subst H
      exact zs_ireturn zd_221_34 (by decide +kernel)
    · rw [if_neg c3] at H
      rw [zp_if_eq_f (x := r2) (t := 32) zd_221_18 rfl c3]
      rw [zs_aload_n (ls := [some (.ref 2), some (.int x1)]) zd_221_21 rfl]
      rw [zs_getR (n := 119) (K := zx_pk (zK L) 119) (ρ := zR) (c := 11) (k := 4) (q := 2) (p := 41) zd_221_22 rfl rfl rfl (by decide) rfl]
      rw [zs_iload_n (ls := [some (.ref 2), some (.int x1)]) zd_221_25 rfl]
      obtain ⟨r4, hr4, H⟩ := Option.bind_eq_some_iff.mp H
      rw [zp_callVi (x := r4) (st := [.int x1, .ref 41]) (as := [.ref 41, .int x1]) (rest := []) (e := 1) zd_221_26 rfl (by decide +kernel) (by decide) rfl rfl (Nat.le_of_ble_eq_true rfl) (zx_rcb_ok rfl (show 41 < 119 by decide)) (Nat.le_of_ble_eq_true rfl) rfl (by decide) (zt_Space_isLast hr4)]
      by_cases c5 : ¬ r4 = 0
      · rw [if_pos c5] at H
        rw [zp_if_ne_t (x := r4) (t := 35) zd_221_29 rfl c5]
        rw [zs_aload_n (ls := [some (.ref 2), some (.int x1)]) zd_221_35 rfl]
        rw [zs_getR (n := 119) (K := zx_pk (zK L) 119) (ρ := zR) (c := 11) (k := 4) (q := 2) (p := 41) zd_221_36 rfl rfl rfl (by decide) rfl]
        rw [zs_iload_n (ls := [some (.ref 2), some (.int x1)]) zd_221_39 rfl]
        obtain ⟨r6, hr6, H⟩ := Option.bind_eq_some_iff.mp H
        rw [zp_callVv (st := [.int x1, .ref 41]) (as := [.ref 41, .int x1]) (rest := []) (e := 3) zd_221_40 rfl (by decide +kernel) (by decide) rfl rfl (Nat.le_of_ble_eq_true rfl) (zx_rcb_ok rfl (show 41 < 119 by decide)) (Nat.le_of_ble_eq_true rfl) rfl (by decide) (zt_Space_load hr6)]
        rw [zs_aload_n (ls := [some (.ref 2), some (.int x1)]) zd_221_43 rfl]
        rw [zs_getR (n := 119) (K := zx_pk (zK L) 119) (ρ := zR) (c := 11) (k := 3) (q := 2) (p := 35) zd_221_44 rfl rfl rfl (by decide) rfl]
        obtain ⟨r7, hr7, H⟩ := Option.bind_eq_some_iff.mp H
        rw [zp_callVi (x := r7) (st := [.ref 35]) (as := [.ref 35]) (rest := []) (e := 2) zd_221_47 rfl (by decide +kernel) (by decide) rfl rfl (Nat.le_of_ble_eq_true rfl) (zx_rcb_ok rfl (show 35 < 119 by decide)) (Nat.le_of_ble_eq_true rfl) rfl (by decide) (zt_Machine_isOver hr7)]
        by_cases c8 : r7 = 0
        · rw [if_pos c8] at H
          rw [zp_if_eq_t (x := r7) (t := 56) zd_221_50 rfl c8]
          rw [zs_aload_n (ls := [some (.ref 2), some (.int x1)]) zd_221_56 rfl]
          rw [zs_getR (n := 119) (K := zx_pk (zK L) 119) (ρ := zR) (c := 11) (k := 3) (q := 2) (p := 35) zd_221_57 rfl rfl rfl (by decide) rfl]
          obtain ⟨r9, hr9, H⟩ := Option.bind_eq_some_iff.mp H
          rw [zp_callVi (x := r9) (st := [.ref 35]) (as := [.ref 35]) (rest := []) (e := 2) zd_221_60 rfl (by decide +kernel) (by decide) rfl rfl (Nat.le_of_ble_eq_true rfl) (zx_rcb_ok rfl (show 35 < 119 by decide)) (Nat.le_of_ble_eq_true rfl) rfl (by decide) (zt_Machine_hasRing hr9)]
          by_cases c10 : r9 = 0
          · rw [if_pos c10] at H
            rw [zp_if_eq_t (x := r9) (t := 68) zd_221_63 rfl c10]
            rw [zs_aload_n (ls := [some (.ref 2), some (.int x1)]) zd_221_68 rfl]
            rw [zs_getR (n := 119) (K := zx_pk (zK L) 119) (ρ := zR) (c := 11) (k := 3) (q := 2) (p := 35) zd_221_69 rfl rfl rfl (by decide) rfl]
            obtain ⟨r11, hr11, H⟩ := Option.bind_eq_some_iff.mp H
            rw [zp_callVi (x := r11) (st := [.ref 35]) (as := [.ref 35]) (rest := []) (e := 2) zd_221_72 rfl (by decide +kernel) (by decide) rfl rfl (Nat.le_of_ble_eq_true rfl) (zx_rcb_ok rfl (show 35 < 119 by decide)) (Nat.le_of_ble_eq_true rfl) rfl (by decide) (zt_Machine_onlyWaits hr11)]
            by_cases c12 : r11 = 0
            · rw [if_pos c12] at H
              rw [zp_if_eq_t (x := r11) (t := 82) zd_221_75 rfl c12]
              rw [zs_iconst (z := 3) zd_221_82 (by decide)]
              have H := Option.some.inj H
              subst H
              exact zs_ireturn zd_221_83 (by decide +kernel)
            · rw [if_neg c12] at H
              rw [zp_if_eq_f (x := r11) (t := 82) zd_221_75 rfl c12]
              rw [zs_iconst (z := 2) zd_221_78 (by decide)]
              rw [zs_goto (t := 83) zd_221_79 rfl]
              have H := Option.some.inj H
              subst H
              exact zs_ireturn zd_221_83 (by decide +kernel)
          · rw [if_neg c10] at H
            rw [zp_if_eq_f (x := r9) (t := 68) zd_221_63 rfl c10]
            rw [zs_iconst (z := 1) zd_221_66 (by decide)]
            have H := Option.some.inj H
            subst H
            exact zs_ireturn zd_221_67 (by decide +kernel)
        · rw [if_neg c8] at H
          rw [zp_if_eq_f (x := r7) (t := 56) zd_221_50 rfl c8]
          rw [zs_bipush (z := (-102)) zd_221_53 (by decide)]
          have H := Option.some.inj H
          subst H
          exact zs_ireturn zd_221_55 (by decide +kernel)
      · rw [if_neg c5] at H
        rw [zp_if_ne_f (x := r4) (t := 35) zd_221_29 rfl c5]
        rw [zs_bipush (z := (-102)) zd_221_32 (by decide)]
        have H := Option.some.inj H
        subst H
        exact zs_ireturn zd_221_34 (by decide +kernel)
  · rw [if_neg c1] at H
    rw [zp_if_ne_f (x := (σ 2 15)) (t := 10) zd_221_4 rfl c1]
    rw [zs_bipush (z := (-101)) zd_221_7 (by decide)]
    have H := Option.some.inj H
    subst H
    exact zs_ireturn zd_221_9 (by decide +kernel)
set_option maxRecDepth 20000 in
theorem zt_M_waitsFor {a b L : Nat} {σ : zS} {τ : zT} {x1 : Int32} {r : Int32} (H : zf_M_waitsFor σ x1 = some r) : zx_go 2 226 0 [some (.ref 82), some (.int x1), none] [] ((119, a, b), zx_pk (zK L) 119, σ, τ, zR) = some (some (.int r), ((119, a, b), zx_pk (zK L) 119, σ, τ, zR)) := by
  unfold zf_M_waitsFor at H
  rw [zs_bipush (z := 24) zd_226_0 (by decide)]
  rw [zs_iload_n (ls := [some (.ref 82), some (.int x1), none]) zd_226_2 rfl]
  rw [zp_imul (x := 24) (y := x1) (z := (24 * x1)) zd_226_3 rfl]
  rw [zs_aload_n (ls := [some (.ref 82), some (.int x1), none]) zd_226_4 rfl]
  rw [zs_getR (n := 119) (K := zx_pk (zK L) 119) (ρ := zR) (c := 12) (k := 47) (q := 82) (p := 107) zd_226_5 rfl rfl rfl (by decide) rfl]
  rw [zs_aload_n (ls := [some (.ref 82), some (.int x1), none]) zd_226_8 rfl]
  rw [zs_iload_n (ls := [some (.ref 82), some (.int x1), none]) zd_226_9 rfl]
  obtain ⟨r1, hr1, H⟩ := Option.bind_eq_some_iff.mp H
  rw [zp_callVi (x := r1) (st := [.int x1, .ref 82, .ref 107, .int (24 * x1)]) (as := [.ref 82, .int x1]) (rest := [.ref 107, .int (24 * x1)]) (e := 0) zd_226_10 rfl (by decide +kernel) (by decide) rfl rfl (Nat.le_of_ble_eq_true rfl) (zx_rcb_ok rfl (show 82 < 119 by decide)) (Nat.le_of_ble_eq_true rfl) rfl (by decide) (zt_M_at hr1)]
  by_cases c2 : 0 ≤ r1 ∧ r1 < 40
  · rw [if_pos c2] at H
    rw [zp_iaload (n := 119) (K := zx_pk (zK L) 119) (σ := σ) (q := 107) (m := 40) (i := r1) (k := r1.toNatClampNeg) (v := (σ 107 r1.toNatClampNeg)) zd_226_13 rfl (by decide) (zJ_in c2 rfl) rfl rfl]
    rw [zp_iadd (x := (24 * x1)) (y := (σ 107 r1.toNatClampNeg)) (z := ((24 * x1) + (σ 107 r1.toNatClampNeg))) zd_226_14 rfl]
    rw [zs_istore_n (x := ((24 * x1) + (σ 107 r1.toNatClampNeg))) (ls' := [some (.ref 82), some (.int x1), some (.int ((24 * x1) + (σ 107 r1.toNatClampNeg)))]) zd_226_15 (Nat.le_of_ble_eq_true rfl) rfl]
    rw [zs_aload_n (ls := [some (.ref 82), some (.int x1), some (.int ((24 * x1) + (σ 107 r1.toNatClampNeg)))]) zd_226_16 rfl]
    rw [zs_iload_n (ls := [some (.ref 82), some (.int x1), some (.int ((24 * x1) + (σ 107 r1.toNatClampNeg)))]) zd_226_17 rfl]
    obtain ⟨r3, hr3, H⟩ := Option.bind_eq_some_iff.mp H
    rw [zp_callVi (x := r3) (st := [.int x1, .ref 82]) (as := [.ref 82, .int x1]) (rest := []) (e := 1) zd_226_18 rfl (by decide +kernel) (by decide) rfl rfl (Nat.le_of_ble_eq_true rfl) (zx_rcb_ok rfl (show 82 < 119 by decide)) (Nat.le_of_ble_eq_true rfl) rfl (by decide) (zt_M_stateOf hr3)]
    rw [zs_iconst (z := 1) zd_226_21 (by decide)]
    by_cases c4 : ¬ r3 = 1
    · rw [if_pos c4] at H
      rw [zp_icmp_ne_t (x := r3) (y := 1) (t := 54) zd_226_22 rfl c4]
      rw [zs_iconst (z := (-1)) zd_226_54 (by decide)]
      have H := Option.some.inj H
      subst H
      exact zs_ireturn zd_226_55 (by decide +kernel)
    · rw [if_neg c4] at H
      rw [zp_icmp_ne_f (x := r3) (y := 1) (t := 54) zd_226_22 rfl c4]
      rw [zs_aload_n (ls := [some (.ref 82), some (.int x1), some (.int ((24 * x1) + (σ 107 r1.toNatClampNeg)))]) zd_226_25 rfl]
      rw [zs_getR (n := 119) (K := zx_pk (zK L) 119) (ρ := zR) (c := 12) (k := 27) (q := 82) (p := 92) zd_226_26 rfl rfl rfl (by decide) rfl]
      rw [zs_iload_n (ls := [some (.ref 82), some (.int x1), some (.int ((24 * x1) + (σ 107 r1.toNatClampNeg)))]) zd_226_29 rfl]
      by_cases c5 : 0 ≤ ((24 * x1) + (σ 107 r1.toNatClampNeg)) ∧ ((24 * x1) + (σ 107 r1.toNatClampNeg)) < 96
      · rw [if_pos c5] at H
        rw [zp_iaload (n := 119) (K := zx_pk (zK L) 119) (σ := σ) (q := 92) (m := 96) (i := ((24 * x1) + (σ 107 r1.toNatClampNeg))) (k := ((24 * x1) + (σ 107 r1.toNatClampNeg)).toNatClampNeg) (v := (σ 92 ((24 * x1) + (σ 107 r1.toNatClampNeg)).toNatClampNeg)) zd_226_30 rfl (by decide) (zJ_in c5 rfl) rfl rfl]
        rw [zs_iconst (z := 3) zd_226_31 (by decide)]
        by_cases c6 : ¬ (σ 92 ((24 * x1) + (σ 107 r1.toNatClampNeg)).toNatClampNeg) = 3
        · rw [if_pos c6] at H
          rw [zp_icmp_ne_t (x := (σ 92 ((24 * x1) + (σ 107 r1.toNatClampNeg)).toNatClampNeg)) (y := 3) (t := 54) zd_226_32 rfl c6]
          rw [zs_iconst (z := (-1)) zd_226_54 (by decide)]
          have H := Option.some.inj H
          subst H
          exact zs_ireturn zd_226_55 (by decide +kernel)
        · rw [if_neg c6] at H
          rw [zp_icmp_ne_f (x := (σ 92 ((24 * x1) + (σ 107 r1.toNatClampNeg)).toNatClampNeg)) (y := 3) (t := 54) zd_226_32 rfl c6]
          rw [zs_aload_n (ls := [some (.ref 82), some (.int x1), some (.int ((24 * x1) + (σ 107 r1.toNatClampNeg)))]) zd_226_35 rfl]
          rw [zs_getR (n := 119) (K := zx_pk (zK L) 119) (ρ := zR) (c := 12) (k := 47) (q := 82) (p := 107) zd_226_36 rfl rfl rfl (by decide) rfl]
          rw [zs_bipush (z := 6) zd_226_39 (by decide)]
          rw [zs_aload_n (ls := [some (.ref 82), some (.int x1), some (.int ((24 * x1) + (σ 107 r1.toNatClampNeg)))]) zd_226_41 rfl]
          rw [zs_getR (n := 119) (K := zx_pk (zK L) 119) (ρ := zR) (c := 12) (k := 28) (q := 82) (p := 93) zd_226_42 rfl rfl rfl (by decide) rfl]
          rw [zs_iload_n (ls := [some (.ref 82), some (.int x1), some (.int ((24 * x1) + (σ 107 r1.toNatClampNeg)))]) zd_226_45 rfl]
          by_cases c7 : 0 ≤ ((24 * x1) + (σ 107 r1.toNatClampNeg)) ∧ ((24 * x1) + (σ 107 r1.toNatClampNeg)) < 96
          · rw [if_pos c7] at H
            rw [zp_iaload (n := 119) (K := zx_pk (zK L) 119) (σ := σ) (q := 93) (m := 96) (i := ((24 * x1) + (σ 107 r1.toNatClampNeg))) (k := ((24 * x1) + (σ 107 r1.toNatClampNeg)).toNatClampNeg) (v := (σ 93 ((24 * x1) + (σ 107 r1.toNatClampNeg)).toNatClampNeg)) zd_226_46 rfl (by decide) (zJ_in c7 rfl) rfl rfl]
            rw [zp_iadd (x := 6) (y := (σ 93 ((24 * x1) + (σ 107 r1.toNatClampNeg)).toNatClampNeg)) (z := (6 + (σ 93 ((24 * x1) + (σ 107 r1.toNatClampNeg)).toNatClampNeg))) zd_226_47 rfl]
            by_cases c8 : 0 ≤ (6 + (σ 93 ((24 * x1) + (σ 107 r1.toNatClampNeg)).toNatClampNeg)) ∧ (6 + (σ 93 ((24 * x1) + (σ 107 r1.toNatClampNeg)).toNatClampNeg)) < 40
            · rw [if_pos c8] at H
              rw [zp_iaload (n := 119) (K := zx_pk (zK L) 119) (σ := σ) (q := 107) (m := 40) (i := (6 + (σ 93 ((24 * x1) + (σ 107 r1.toNatClampNeg)).toNatClampNeg))) (k := (6 + (σ 93 ((24 * x1) + (σ 107 r1.toNatClampNeg)).toNatClampNeg)).toNatClampNeg) (v := (σ 107 (6 + (σ 93 ((24 * x1) + (σ 107 r1.toNatClampNeg)).toNatClampNeg)).toNatClampNeg)) zd_226_48 rfl (by decide) (zJ_in c8 rfl) rfl rfl]
              rw [zs_iconst (z := 1) zd_226_49 (by decide)]
              rw [zp_isub (x := (σ 107 (6 + (σ 93 ((24 * x1) + (σ 107 r1.toNatClampNeg)).toNatClampNeg)).toNatClampNeg)) (y := 1) (z := ((σ 107 (6 + (σ 93 ((24 * x1) + (σ 107 r1.toNatClampNeg)).toNatClampNeg)).toNatClampNeg) - 1)) zd_226_50 rfl]
              rw [zs_goto (t := 55) zd_226_51 rfl]
              have H := Option.some.inj H
              subst H
              exact zs_ireturn zd_226_55 rfl
            · rw [if_neg c8] at H
              cases H
          · rw [if_neg c7] at H
            cases H
      · rw [if_neg c5] at H
        cases H
  · rw [if_neg c2] at H
    cases H
set_option maxRecDepth 20000 in
theorem zt_M_stuck_135 {a b L N : Nat} {k45 : zS → Int32 → Int32 → Option (Int32 × zS)} (hk45 : ∀ {σ : zS} {τ : zT} {v2 : Int32} {v3 : Int32} {o1 : Option Value} {o4 : Option Value} {o5 : Option Value} {r : Int32 × zS}, k45 σ v2 v3 = some r → zx_go 3 225 45 [some (.ref 82), o1, some (.int v2), some (.int v3), o4, o5] [] ((119, a, b), zx_pk (zK L) 119, σ, τ, zR) = some (some (.int r.1), ((119, a, b), zx_pk (zK L) 119, r.2, τ, zR))) {σ : zS} {τ : zT} {v3 : Int32} {s0 : Int32} {o1 : Option Value} {o2 : Option Value} {o4 : Option Value} {o5 : Option Value} {r : Int32 × zS} (H : zb_M_stuck_135 k45 N σ v3 s0 = some r) : zx_go 3 225 135 [some (.ref 82), o1, o2, some (.int v3), o4, o5] [.int s0] ((119, a, b), zx_pk (zK L) 119, σ, τ, zR) = some (some (.int r.1), ((119, a, b), zx_pk (zK L) 119, r.2, τ, zR)) := by
  unfold zb_M_stuck_135 at H
  rw [zs_istore_n (x := s0) (ls' := [some (.ref 82), (zJ_cl o1), some (.int s0), some (.int v3), o4, o5]) zd_225_135 (Nat.le_of_ble_eq_true rfl) (zJ_s1 (k := 1) (o := o1) rfl)]
  rw [zs_iinc (ls := [some (.ref 82), (zJ_cl o1), some (.int s0), some (.int v3), o4, o5]) (x := v3) (z := (v3 + 1)) (ls' := [some (.ref 82), (zJ_cl o1), some (.int s0), some (.int (v3 + 1)), o4, o5]) zd_225_136 rfl rfl rfl]
  rw [zs_goto (t := 45) zd_225_139 rfl]
  exact hk45 H
set_option maxRecDepth 20000 in
theorem zt_M_stuck_134 {a b L N : Nat} {k45 : zS → Int32 → Int32 → Option (Int32 × zS)} (hk45 : ∀ {σ : zS} {τ : zT} {v2 : Int32} {v3 : Int32} {o1 : Option Value} {o4 : Option Value} {o5 : Option Value} {r : Int32 × zS}, k45 σ v2 v3 = some r → zx_go 3 225 45 [some (.ref 82), o1, some (.int v2), some (.int v3), o4, o5] [] ((119, a, b), zx_pk (zK L) 119, σ, τ, zR) = some (some (.int r.1), ((119, a, b), zx_pk (zK L) 119, r.2, τ, zR))) {σ : zS} {τ : zT} {v3 : Int32} {o1 : Option Value} {o2 : Option Value} {o4 : Option Value} {o5 : Option Value} {r : Int32 × zS} (H : zb_M_stuck_134 k45 N σ v3 = some r) : zx_go 3 225 134 [some (.ref 82), o1, o2, some (.int v3), o4, o5] [] ((119, a, b), zx_pk (zK L) 119, σ, τ, zR) = some (some (.int r.1), ((119, a, b), zx_pk (zK L) 119, r.2, τ, zR)) := by
  unfold zb_M_stuck_134 at H
  rw [zs_iconst (z := 0) zd_225_134 (by decide)]
  exact zt_M_stuck_135 (hk45 := hk45) H
set_option maxRecDepth 20000 in
theorem zt_M_stuck_130 {a b L N : Nat} {k45 : zS → Int32 → Int32 → Option (Int32 × zS)} (hk45 : ∀ {σ : zS} {τ : zT} {v2 : Int32} {v3 : Int32} {o1 : Option Value} {o4 : Option Value} {o5 : Option Value} {r : Int32 × zS}, k45 σ v2 v3 = some r → zx_go 3 225 45 [some (.ref 82), o1, some (.int v2), some (.int v3), o4, o5] [] ((119, a, b), zx_pk (zK L) 119, σ, τ, zR) = some (some (.int r.1), ((119, a, b), zx_pk (zK L) 119, r.2, τ, zR))) {σ : zS} {τ : zT} {v3 : Int32} {o1 : Option Value} {o2 : Option Value} {o4 : Option Value} {o5 : Option Value} {r : Int32 × zS} (H : zb_M_stuck_130 k45 N σ v3 = some r) : zx_go 3 225 130 [some (.ref 82), o1, o2, some (.int v3), o4, o5] [] ((119, a, b), zx_pk (zK L) 119, σ, τ, zR) = some (some (.int r.1), ((119, a, b), zx_pk (zK L) 119, r.2, τ, zR)) := by
  unfold zb_M_stuck_130 at H
  rw [zs_iconst (z := 1) zd_225_130 (by decide)]
  rw [zs_goto (t := 135) zd_225_131 rfl]
  exact zt_M_stuck_135 (hk45 := hk45) H
set_option maxRecDepth 20000 in
theorem zt_M_stuck_96 {a b L N : Nat} {k45 : zS → Int32 → Int32 → Option (Int32 × zS)} (hk45 : ∀ {σ : zS} {τ : zT} {v2 : Int32} {v3 : Int32} {o1 : Option Value} {o4 : Option Value} {o5 : Option Value} {r : Int32 × zS}, k45 σ v2 v3 = some r → zx_go 3 225 45 [some (.ref 82), o1, some (.int v2), some (.int v3), o4, o5] [] ((119, a, b), zx_pk (zK L) 119, σ, τ, zR) = some (some (.int r.1), ((119, a, b), zx_pk (zK L) 119, r.2, τ, zR))) {σ : zS} {τ : zT} {v2 : Int32} {v3 : Int32} {o1 : Option Value} {o4 : Option Value} {o5 : Option Value} {r : Int32 × zS} (H : zb_M_stuck_96 k45 N σ v2 v3 = some r) : zx_go 3 225 96 [some (.ref 82), o1, some (.int v2), some (.int v3), o4, o5] [] ((119, a, b), zx_pk (zK L) 119, σ, τ, zR) = some (some (.int r.1), ((119, a, b), zx_pk (zK L) 119, r.2, τ, zR)) := by
  unfold zb_M_stuck_96 at H
  rw [zs_aload_n (ls := [some (.ref 82), o1, some (.int v2), some (.int v3), o4, o5]) zd_225_96 rfl]
  rw [zs_iload_n (ls := [some (.ref 82), o1, some (.int v2), some (.int v3), o4, o5]) zd_225_97 rfl]
  obtain ⟨r10, hr10, H⟩ := Option.bind_eq_some_iff.mp H
  rw [zp_callVi (x := r10) (st := [.int v3, .ref 82]) (as := [.ref 82, .int v3]) (rest := []) (e := 1) zd_225_98 rfl (by decide +kernel) (by decide) rfl rfl (Nat.le_of_ble_eq_true rfl) (zx_rcb_ok rfl (show 82 < 119 by decide)) (Nat.le_of_ble_eq_true rfl) rfl (by decide) (zt_M_stateOf hr10)]
  rw [zs_istore (x := r10) (ls' := [some (.ref 82), o1, some (.int v2), some (.int v3), (zJ_cl o4), some (.int r10)]) zd_225_101 (Nat.le_of_ble_eq_true rfl) (zJ_s1 (k := 4) (o := o4) rfl)]
  rw [zs_iload_n (ls := [some (.ref 82), o1, some (.int v2), some (.int v3), (zJ_cl o4), some (.int r10)]) zd_225_103 rfl]
  by_cases c11 : v2 = 0
  · rw [if_pos c11] at H
    rw [zp_if_eq_t (x := v2) (t := 134) zd_225_104 rfl c11]
    exact zt_M_stuck_134 (hk45 := hk45) H
  · rw [if_neg c11] at H
    rw [zp_if_eq_f (x := v2) (t := 134) zd_225_104 rfl c11]
    rw [zs_iload (ls := [some (.ref 82), o1, some (.int v2), some (.int v3), (zJ_cl o4), some (.int r10)]) zd_225_107 rfl]
    rw [zs_iconst (z := 4) zd_225_109 (by decide)]
    by_cases c12 : r10 = 4
    · rw [if_pos c12] at H
      rw [zp_icmp_eq_t (x := r10) (y := 4) (t := 130) zd_225_110 rfl c12]
      exact zt_M_stuck_130 (hk45 := hk45) H
    · rw [if_neg c12] at H
      rw [zp_icmp_eq_f (x := r10) (y := 4) (t := 130) zd_225_110 rfl c12]
      rw [zs_iload (ls := [some (.ref 82), o1, some (.int v2), some (.int v3), (zJ_cl o4), some (.int r10)]) zd_225_113 rfl]
      rw [zs_iconst (z := 5) zd_225_115 (by decide)]
      by_cases c13 : r10 = 5
      · rw [if_pos c13] at H
        rw [zp_icmp_eq_t (x := r10) (y := 5) (t := 130) zd_225_116 rfl c13]
        exact zt_M_stuck_130 (hk45 := hk45) H
      · rw [if_neg c13] at H
        rw [zp_icmp_eq_f (x := r10) (y := 5) (t := 130) zd_225_116 rfl c13]
        rw [zs_iload (ls := [some (.ref 82), o1, some (.int v2), some (.int v3), (zJ_cl o4), some (.int r10)]) zd_225_119 rfl]
        by_cases c14 : r10 = 0
        · rw [if_pos c14] at H
          rw [zp_if_eq_t (x := r10) (t := 130) zd_225_121 rfl c14]
          exact zt_M_stuck_130 (hk45 := hk45) H
        · rw [if_neg c14] at H
          rw [zp_if_eq_f (x := r10) (t := 130) zd_225_121 rfl c14]
          rw [zs_iload (ls := [some (.ref 82), o1, some (.int v2), some (.int v3), (zJ_cl o4), some (.int r10)]) zd_225_124 rfl]
          rw [zs_iconst (z := 2) zd_225_126 (by decide)]
          by_cases c15 : ¬ r10 = 2
          · rw [if_pos c15] at H
            rw [zp_icmp_ne_t (x := r10) (y := 2) (t := 134) zd_225_127 rfl c15]
            exact zt_M_stuck_134 (hk45 := hk45) H
          · rw [if_neg c15] at H
            rw [zp_icmp_ne_f (x := r10) (y := 2) (t := 134) zd_225_127 rfl c15]
            exact zt_M_stuck_130 (hk45 := hk45) H
set_option maxRecDepth 20000 in
theorem zt_M_stuck_59 {a b L N : Nat} {k45 : zS → Int32 → Int32 → Option (Int32 × zS)} (hk45 : ∀ {σ : zS} {τ : zT} {v2 : Int32} {v3 : Int32} {o1 : Option Value} {o4 : Option Value} {o5 : Option Value} {r : Int32 × zS}, k45 σ v2 v3 = some r → zx_go 3 225 45 [some (.ref 82), o1, some (.int v2), some (.int v3), o4, o5] [] ((119, a, b), zx_pk (zK L) 119, σ, τ, zR) = some (some (.int r.1), ((119, a, b), zx_pk (zK L) 119, r.2, τ, zR))) : ∀ {n : Nat} {σ : zS} {τ : zT} {v2 : Int32} {v3 : Int32} {v4 : Int32} {v5 : Int32} {o1 : Option Value} {r : Int32 × zS}, zb_M_stuck_59 k45 N n σ v2 v3 v4 v5 = some r → zx_go 3 225 59 [some (.ref 82), o1, some (.int v2), some (.int v3), some (.int v4), some (.int v5)] [] ((119, a, b), zx_pk (zK L) 119, σ, τ, zR) = some (some (.int r.1), ((119, a, b), zx_pk (zK L) 119, r.2, τ, zR)) := by
  intro n
  induction n with
  | zero =>
    intro _ _ _ _ _ _ _ _ H
    cases H
  | succ n ih =>
    intro σ τ v2 v3 v4 v5 o1 r H
    rw [zb_M_stuck_59] at H
    rw [zs_iload (ls := [some (.ref 82), o1, some (.int v2), some (.int v3), some (.int v4), some (.int v5)]) zd_225_59 rfl]
    rw [zs_aload_n (ls := [some (.ref 82), o1, some (.int v2), some (.int v3), some (.int v4), some (.int v5)]) zd_225_61 rfl]
    rw [zp_getI (n := 119) (K := zx_pk (zK L) 119) (σ := σ) (c := 12) (k := 17) (q := 82) (v := (σ 82 17)) zd_225_62 rfl rfl rfl (by decide) rfl]
    by_cases c9 : (σ 82 17) ≤ v5
    · rw [if_pos c9] at H
      rw [zp_icmp_ge_t (x := v5) (y := (σ 82 17)) (t := 96) zd_225_65 rfl c9]
      exact zt_M_stuck_96 (hk45 := hk45) H
    · rw [if_neg c9] at H
      rw [zp_icmp_ge_f (x := v5) (y := (σ 82 17)) (t := 96) zd_225_65 rfl c9]
      rw [zs_iload (ls := [some (.ref 82), o1, some (.int v2), some (.int v3), some (.int v4), some (.int v5)]) zd_225_68 rfl]
      rw [zs_iconst (z := (-1)) zd_225_70 (by decide)]
      by_cases c16 : v4 = (-1)
      · rw [if_pos c16] at H
        rw [zp_icmp_eq_t (x := v4) (y := (-1)) (t := 96) zd_225_71 rfl c16]
        exact zt_M_stuck_96 (hk45 := hk45) H
      · rw [if_neg c16] at H
        rw [zp_icmp_eq_f (x := v4) (y := (-1)) (t := 96) zd_225_71 rfl c16]
        rw [zs_aload_n (ls := [some (.ref 82), o1, some (.int v2), some (.int v3), some (.int v4), some (.int v5)]) zd_225_74 rfl]
        rw [zs_iload (ls := [some (.ref 82), o1, some (.int v2), some (.int v3), some (.int v4), some (.int v5)]) zd_225_75 rfl]
        obtain ⟨r17, hr17, H⟩ := Option.bind_eq_some_iff.mp H
        rw [zp_callVi (x := r17) (st := [.int v4, .ref 82]) (as := [.ref 82, .int v4]) (rest := []) (e := 2) zd_225_77 rfl (by decide +kernel) (by decide) rfl rfl (Nat.le_of_ble_eq_true rfl) (zx_rcb_ok rfl (show 82 < 119 by decide)) (Nat.le_of_ble_eq_true rfl) rfl (by decide) (zt_M_waitsFor hr17)]
        rw [zs_istore (x := r17) (ls' := [some (.ref 82), o1, some (.int v2), some (.int v3), some (.int r17), some (.int v5)]) zd_225_80 (Nat.le_of_ble_eq_true rfl) rfl]
        rw [zs_iload (ls := [some (.ref 82), o1, some (.int v2), some (.int v3), some (.int r17), some (.int v5)]) zd_225_82 rfl]
        rw [zs_iload_n (ls := [some (.ref 82), o1, some (.int v2), some (.int v3), some (.int r17), some (.int v5)]) zd_225_84 rfl]
        by_cases c18 : ¬ r17 = v3
        · rw [if_pos c18] at H
          rw [zp_icmp_ne_t (x := r17) (y := v3) (t := 90) zd_225_85 rfl c18]
          rw [zs_iinc (ls := [some (.ref 82), o1, some (.int v2), some (.int v3), some (.int r17), some (.int v5)]) (x := v5) (z := (v5 + 1)) (ls' := [some (.ref 82), o1, some (.int v2), some (.int v3), some (.int r17), some (.int (v5 + 1))]) zd_225_90 rfl rfl rfl]
          rw [zs_goto (t := 59) zd_225_93 rfl]
          exact ih H
        · rw [if_neg c18] at H
          rw [zp_icmp_ne_f (x := r17) (y := v3) (t := 90) zd_225_85 rfl c18]
          rw [zs_iconst (z := 1) zd_225_88 (by decide)]
          have H := Option.some.inj H
          subst H
          exact zs_ireturn zd_225_89 (by decide +kernel)
set_option maxRecDepth 20000 in
theorem zt_M_stuck_45 {a b L N : Nat} : ∀ {n : Nat} {σ : zS} {τ : zT} {v2 : Int32} {v3 : Int32} {o1 : Option Value} {o4 : Option Value} {o5 : Option Value} {r : Int32 × zS}, zb_M_stuck_45 N n σ v2 v3 = some r → zx_go 3 225 45 [some (.ref 82), o1, some (.int v2), some (.int v3), o4, o5] [] ((119, a, b), zx_pk (zK L) 119, σ, τ, zR) = some (some (.int r.1), ((119, a, b), zx_pk (zK L) 119, r.2, τ, zR)) := by
  intro n
  induction n with
  | zero =>
    intro _ _ _ _ _ _ _ _ H
    cases H
  | succ n ih =>
    intro σ τ v2 v3 o1 o4 o5 r H
    rw [zb_M_stuck_45] at H
    rw [zs_iload_n (ls := [some (.ref 82), o1, some (.int v2), some (.int v3), o4, o5]) zd_225_45 rfl]
    rw [zs_aload_n (ls := [some (.ref 82), o1, some (.int v2), some (.int v3), o4, o5]) zd_225_46 rfl]
    rw [zp_getI (n := 119) (K := zx_pk (zK L) 119) (σ := σ) (c := 12) (k := 17) (q := 82) (v := (σ 82 17)) zd_225_47 rfl rfl rfl (by decide) rfl]
    by_cases c7 : (σ 82 17) ≤ v3
    · rw [if_pos c7] at H
      rw [zp_icmp_ge_t (x := v3) (y := (σ 82 17)) (t := 142) zd_225_50 rfl c7]
      rw [zs_iload_n (ls := [some (.ref 82), o1, some (.int v2), some (.int v3), o4, o5]) zd_225_142 rfl]
      by_cases c8 : v2 = 0
      · rw [if_pos c8] at H
        rw [zp_if_eq_t (x := v2) (t := 150) zd_225_143 rfl c8]
        rw [zs_iconst (z := 3) zd_225_150 (by decide)]
        have H := Option.some.inj H
        subst H
        exact zs_ireturn zd_225_151 (by decide +kernel)
      · rw [if_neg c8] at H
        rw [zp_if_eq_f (x := v2) (t := 150) zd_225_143 rfl c8]
        rw [zs_iconst (z := 2) zd_225_146 (by decide)]
        rw [zs_goto (t := 151) zd_225_147 rfl]
        have H := Option.some.inj H
        subst H
        exact zs_ireturn zd_225_151 (by decide +kernel)
    · rw [if_neg c7] at H
      rw [zp_icmp_ge_f (x := v3) (y := (σ 82 17)) (t := 142) zd_225_50 rfl c7]
      rw [zs_iload_n (ls := [some (.ref 82), o1, some (.int v2), some (.int v3), o4, o5]) zd_225_53 rfl]
      rw [zs_istore (x := v3) (ls' := [some (.ref 82), o1, some (.int v2), some (.int v3), some (.int v3), o5]) zd_225_54 (Nat.le_of_ble_eq_true rfl) rfl]
      rw [zs_iconst (z := 0) zd_225_56 (by decide)]
      rw [zs_istore (x := 0) (ls' := [some (.ref 82), o1, some (.int v2), some (.int v3), some (.int v3), some (.int 0)]) zd_225_57 (Nat.le_of_ble_eq_true rfl) rfl]
      exact zt_M_stuck_59 (hk45 := ih) H
set_option maxRecDepth 20000 in
theorem zt_M_stuck {a b L N : Nat} {σ : zS} {τ : zT} {x1 : Int32} {r : Int32 × zS} (H : zf_M_stuck N σ x1 = some r) : zx_go 3 225 0 [some (.ref 82), some (.int x1), none, none, none, none] [] ((119, a, b), zx_pk (zK L) 119, σ, τ, zR) = some (some (.int r.1), ((119, a, b), zx_pk (zK L) 119, r.2, τ, zR)) := by
  unfold zf_M_stuck at H
  rw [zs_aload_n (ls := [some (.ref 82), some (.int x1), none, none, none, none]) zd_225_0 rfl]
  rw [zs_iconst (z := 0) zd_225_1 (by decide)]
  rw [zs_putI (n := 119) (K := zx_pk (zK L) 119) (c := 12) (k := 0) (q := 82) (x := 0) zd_225_2 rfl rfl (by decide +kernel) rfl (by decide)]
  rw [zs_aload_n (ls := [some (.ref 82), some (.int x1), none, none, none, none]) zd_225_5 rfl]
  rw [zp_getZ (n := 119) (K := zx_pk (zK L) 119) (σ := (zx_up σ 82 0 0)) (c := 12) (k := 53) (q := 82) (v := (σ 82 53)) zd_225_6 rfl rfl rfl (by decide) (show ((zx_up σ 82 0 0) : zS) 82 53 = (σ 82 53) from ((zx_up_nj (by decide)).trans rfl))]
  by_cases c1 : ¬ (σ 82 53) = 0
  · rw [if_pos c1] at H
    rw [zp_if_ne_t (x := (σ 82 53)) (t := 15) zd_225_9 rfl c1]
    rw [zs_aload_n (ls := [some (.ref 82), some (.int x1), none, none, none, none]) zd_225_15 rfl]
    rw [zs_iload_n (ls := [some (.ref 82), some (.int x1), none, none, none, none]) zd_225_16 rfl]
    obtain ⟨r2, hr2, H⟩ := Option.bind_eq_some_iff.mp H
    rw [zp_callVi (x := r2) (st := [.int x1, .ref 82]) (as := [.ref 82, .int x1]) (rest := []) (e := 1) zd_225_17 rfl (by decide +kernel) (by decide) rfl rfl (Nat.le_of_ble_eq_true rfl) (zx_rcb_ok rfl (show 82 < 119 by decide)) (Nat.le_of_ble_eq_true rfl) rfl (by decide) (zt_M_isState hr2)]
    by_cases c3 : r2 = 0
    · rw [if_pos c3] at H
      rw [zp_if_eq_t (x := r2) (t := 33) zd_225_20 rfl c3]
      rw [zs_bipush (z := (-102)) zd_225_33 (by decide)]
      have H := Option.some.inj H
      subst H
      exact zs_ireturn zd_225_35 (by decide +kernel)
    · rw [if_neg c3] at H
      rw [zp_if_eq_f (x := r2) (t := 33) zd_225_20 rfl c3]
      rw [zs_aload_n (ls := [some (.ref 82), some (.int x1), none, none, none, none]) zd_225_23 rfl]
      rw [zs_getR (n := 119) (K := zx_pk (zK L) 119) (ρ := zR) (c := 12) (k := 57) (q := 82) (p := 113) zd_225_24 rfl rfl rfl (by decide) rfl]
      rw [zs_iload_n (ls := [some (.ref 82), some (.int x1), none, none, none, none]) zd_225_27 rfl]
      by_cases c4 : 0 ≤ x1 ∧ x1 < 4000
      · rw [if_pos c4] at H
        rw [zp_iaload (n := 119) (K := zx_pk (zK L) 119) (σ := (zx_up σ 82 0 0)) (q := 113) (m := 4000) (i := x1) (k := x1.toNatClampNeg) (v := (σ 113 x1.toNatClampNeg)) zd_225_28 rfl (by decide) (zJ_in c4 rfl) rfl (show ((zx_up σ 82 0 0) : zS) 113 x1.toNatClampNeg = (σ 113 x1.toNatClampNeg) from ((zx_up_ne (by decide)).trans rfl))]
        rw [zs_iconst (z := 2) zd_225_29 (by decide)]
        by_cases c5 : (σ 113 x1.toNatClampNeg) = 2
        · rw [if_pos c5] at H
          rw [zp_icmp_eq_t (x := (σ 113 x1.toNatClampNeg)) (y := 2) (t := 36) zd_225_30 rfl c5]
          rw [zs_aload_n (ls := [some (.ref 82), some (.int x1), none, none, none, none]) zd_225_36 rfl]
          rw [zs_iload_n (ls := [some (.ref 82), some (.int x1), none, none, none, none]) zd_225_37 rfl]
          obtain ⟨r6, hr6, H⟩ := Option.bind_eq_some_iff.mp H
          rw [zp_callVv (st := [.int x1, .ref 82]) (as := [.ref 82, .int x1]) (rest := []) (e := 0) zd_225_38 rfl (by decide +kernel) (by decide) rfl rfl (Nat.le_of_ble_eq_true rfl) (zx_rcb_ok rfl (show 82 < 119 by decide)) (Nat.le_of_ble_eq_true rfl) rfl (by decide) (zt_M_load hr6)]
          rw [zs_iconst (z := 1) zd_225_41 (by decide)]
          rw [zs_istore_n (x := 1) (ls' := [some (.ref 82), some (.int x1), some (.int 1), none, none, none]) zd_225_42 (Nat.le_of_ble_eq_true rfl) rfl]
          rw [zs_iconst (z := 0) zd_225_43 (by decide)]
          rw [zs_istore_n (x := 0) (ls' := [some (.ref 82), some (.int x1), some (.int 1), some (.int 0), none, none]) zd_225_44 (Nat.le_of_ble_eq_true rfl) rfl]
          exact zt_M_stuck_45  H
        · rw [if_neg c5] at H
          rw [zp_icmp_eq_f (x := (σ 113 x1.toNatClampNeg)) (y := 2) (t := 36) zd_225_30 rfl c5]
          rw [zs_bipush (z := (-102)) zd_225_33 (by decide)]
          have H := Option.some.inj H
          subst H
          exact zs_ireturn zd_225_35 (by decide +kernel)
      · rw [if_neg c4] at H
        cases H
  · rw [if_neg c1] at H
    rw [zp_if_ne_f (x := (σ 82 53)) (t := 15) zd_225_9 rfl c1]
    rw [zs_bipush (z := (-101)) zd_225_12 (by decide)]
    have H := Option.some.inj H
    subst H
    exact zs_ireturn zd_225_14 (by decide +kernel)
set_option maxRecDepth 20000 in
theorem zt_Arrays_fill_c7_5 {a b L N : Nat} : ∀ {n : Nat} {σ : zS} {τ : zT} {v1 : Int32} {v2 : Int32} {v3 : Int32} {r : zS}, zb_Arrays_fill_c7_5 N n σ v1 v2 v3 = some r → zx_go 0 22 5 [some (.ref 68), some (.int v1), some (.int v2), some (.int v3)] [] ((119, a, b), zx_pk (zK L) 119, σ, τ, zR) = some (none, ((119, a, b), zx_pk (zK L) 119, r, τ, zR)) := by
  intro n
  induction n with
  | zero =>
    intro _ _ _ _ _ _ H
    cases H
  | succ n ih =>
    intro σ τ v1 v2 v3 r H
    rw [zb_Arrays_fill_c7_5] at H
    rw [zs_iload_n (ls := [some (.ref 68), some (.int v1), some (.int v2), some (.int v3)]) zd_22_5 rfl]
    rw [zs_iload_n (ls := [some (.ref 68), some (.int v1), some (.int v2), some (.int v3)]) zd_22_6 rfl]
    by_cases c1 : v3 ≤ v2
    · rw [if_pos c1] at H
      rw [zp_icmp_ge_t (x := v2) (y := v3) (t := 20) zd_22_7 rfl c1]
      have H := Option.some.inj H
      subst H
      exact zs_return zd_22_20 (by decide +kernel)
    · rw [if_neg c1] at H
      rw [zp_icmp_ge_f (x := v2) (y := v3) (t := 20) zd_22_7 rfl c1]
      rw [zs_aload_n (ls := [some (.ref 68), some (.int v1), some (.int v2), some (.int v3)]) zd_22_10 rfl]
      rw [zs_iload_n (ls := [some (.ref 68), some (.int v1), some (.int v2), some (.int v3)]) zd_22_11 rfl]
      rw [zs_iload_n (ls := [some (.ref 68), some (.int v1), some (.int v2), some (.int v3)]) zd_22_12 rfl]
      by_cases c2 : 0 ≤ v2 ∧ v2 < 8192
      · rw [if_pos c2] at H
        rw [zp_iastore (n := 119) (K := zx_pk (zK L) 119) (q := 68) (m := 8192) (i := v2) (k := v2.toNatClampNeg) (x := v1) (z := v1) zd_22_13 rfl ⟨by decide, by decide⟩ (zJ_in c2 rfl) rfl rfl]
        rw [zs_iinc (ls := [some (.ref 68), some (.int v1), some (.int v2), some (.int v3)]) (x := v2) (z := (v2 + 1)) (ls' := [some (.ref 68), some (.int v1), some (.int (v2 + 1)), some (.int v3)]) zd_22_14 rfl rfl rfl]
        rw [zs_goto (t := 5) zd_22_17 rfl]
        exact ih H
      · rw [if_neg c2] at H
        cases H
set_option maxRecDepth 20000 in
theorem zt_Arrays_fill_c7 {a b L N : Nat} {σ : zS} {τ : zT} {x2 : Int32} {r : zS} (H : zf_Arrays_fill_c7 N σ x2 = some r) : zx_go 0 22 0 [some (.ref 68), some (.int x2), none, none] [] ((119, a, b), zx_pk (zK L) 119, σ, τ, zR) = some (none, ((119, a, b), zx_pk (zK L) 119, r, τ, zR)) := by
  unfold zf_Arrays_fill_c7 at H
  rw [zs_iconst (z := 0) zd_22_0 (by decide)]
  rw [zs_istore_n (x := 0) (ls' := [some (.ref 68), some (.int x2), some (.int 0), none]) zd_22_1 (Nat.le_of_ble_eq_true rfl) rfl]
  rw [zs_aload_n (ls := [some (.ref 68), some (.int x2), some (.int 0), none]) zd_22_2 rfl]
  rw [zs_arraylength (n := 119) (K := zx_pk (zK L) 119) (q := 68) (m := 8192) (z := 8192) zd_22_3 rfl (by decide) (by decide)]
  rw [zs_istore_n (x := 8192) (ls' := [some (.ref 68), some (.int x2), some (.int 0), some (.int 8192)]) zd_22_4 (Nat.le_of_ble_eq_true rfl) rfl]
  exact zt_Arrays_fill_c7_5  H
set_option maxRecDepth 20000 in
theorem zt_Space_has_c1 {a b L : Nat} {σ : zS} {τ : zT} {x1 : Int32} {r : Int32} (H : zf_Space_has_c1 σ x1 = some r) : zx_go 0 135 0 [some (.ref 64), some (.int x1)] [] ((119, a, b), zx_pk (zK L) 119, σ, τ, zR) = some (some (.int r), ((119, a, b), zx_pk (zK L) 119, σ, τ, zR)) := by
  unfold zf_Space_has_c1 at H
  rw [zs_iload_n (ls := [some (.ref 64), some (.int x1)]) zd_135_0 rfl]
  by_cases c1 : x1 < 0
  · rw [if_pos c1] at H
    rw [zp_if_lt_t (x := x1) (t := 23) zd_135_1 rfl c1]
    rw [zs_iconst (z := 0) zd_135_23 (by decide)]
    have H := Option.some.inj H
    subst H
    exact zs_ireturn zd_135_24 (by decide +kernel)
  · rw [if_neg c1] at H
    rw [zp_if_lt_f (x := x1) (t := 23) zd_135_1 rfl c1]
    rw [zs_iload_n (ls := [some (.ref 64), some (.int x1)]) zd_135_4 rfl]
    rw [zs_aload_n (ls := [some (.ref 64), some (.int x1)]) zd_135_5 rfl]
    rw [zp_getI (n := 119) (K := zx_pk (zK L) 119) (σ := σ) (c := 8) (k := 6) (q := 64) (v := (σ 64 6)) zd_135_6 rfl rfl rfl (by decide) rfl]
    by_cases c2 : (σ 64 6) ≤ x1
    · rw [if_pos c2] at H
      rw [zp_icmp_ge_t (x := x1) (y := (σ 64 6)) (t := 23) zd_135_9 rfl c2]
      rw [zs_iconst (z := 0) zd_135_23 (by decide)]
      have H := Option.some.inj H
      subst H
      exact zs_ireturn zd_135_24 (by decide +kernel)
    · rw [if_neg c2] at H
      rw [zp_icmp_ge_f (x := x1) (y := (σ 64 6)) (t := 23) zd_135_9 rfl c2]
      rw [zs_iload_n (ls := [some (.ref 64), some (.int x1)]) zd_135_12 rfl]
      rw [zs_sipush (z := 4000) zd_135_13 (by decide)]
      by_cases c3 : 4000 ≤ x1
      · rw [if_pos c3] at H
        rw [zp_icmp_ge_t (x := x1) (y := 4000) (t := 23) zd_135_16 rfl c3]
        rw [zs_iconst (z := 0) zd_135_23 (by decide)]
        have H := Option.some.inj H
        subst H
        exact zs_ireturn zd_135_24 (by decide +kernel)
      · rw [if_neg c3] at H
        rw [zp_icmp_ge_f (x := x1) (y := 4000) (t := 23) zd_135_16 rfl c3]
        rw [zs_iconst (z := 1) zd_135_19 (by decide)]
        rw [zs_goto (t := 24) zd_135_20 rfl]
        have H := Option.some.inj H
        subst H
        exact zs_ireturn zd_135_24 (by decide +kernel)
set_option maxRecDepth 20000 in
theorem zt_Space_isComing_c1_2 {a b L N : Nat} : ∀ {n : Nat} {σ : zS} {τ : zT} {v1 : Int32} {v2 : Int32} {r : Int32}, zb_Space_isComing_c1_2 N n σ v1 v2 = some r → zx_go 1 134 2 [some (.ref 64), some (.int v1), some (.int v2)] [] ((119, a, b), zx_pk (zK L) 119, σ, τ, zR) = some (some (.int r), ((119, a, b), zx_pk (zK L) 119, σ, τ, zR)) := by
  intro n
  induction n with
  | zero =>
    intro _ _ _ _ _ H
    cases H
  | succ n ih =>
    intro σ τ v1 v2 r H
    rw [zb_Space_isComing_c1_2] at H
    rw [zs_iload_n (ls := [some (.ref 64), some (.int v1), some (.int v2)]) zd_134_2 rfl]
    rw [zs_iconst (z := 5) zd_134_3 (by decide)]
    by_cases c1 : 5 ≤ v2
    · rw [if_pos c1] at H
      rw [zp_icmp_ge_t (x := v2) (y := 5) (t := 45) zd_134_4 rfl c1]
      rw [zs_iconst (z := 1) zd_134_45 (by decide)]
      have H := Option.some.inj H
      subst H
      exact zs_ireturn zd_134_46 (by decide +kernel)
    · rw [if_neg c1] at H
      rw [zp_icmp_ge_f (x := v2) (y := 5) (t := 45) zd_134_4 rfl c1]
      rw [zs_aload_n (ls := [some (.ref 64), some (.int v1), some (.int v2)]) zd_134_7 rfl]
      rw [zs_iload_n (ls := [some (.ref 64), some (.int v1), some (.int v2)]) zd_134_8 rfl]
      obtain ⟨r2, hr2, H⟩ := Option.bind_eq_some_iff.mp H
      rw [zp_callVi (x := r2) (st := [.int v1, .ref 64]) (as := [.ref 64, .int v1]) (rest := []) (e := 0) zd_134_9 rfl (by decide +kernel) (by decide) rfl rfl (Nat.le_of_ble_eq_true rfl) (zx_rcb_ok rfl (show 64 < 119 by decide)) (Nat.le_of_ble_eq_true rfl) rfl (by decide) (zt_Space_has_c1 hr2)]
      by_cases c3 : r2 = 0
      · rw [if_pos c3] at H
        rw [zp_if_eq_t (x := r2) (t := 45) zd_134_12 rfl c3]
        rw [zs_iconst (z := 1) zd_134_45 (by decide)]
        have H := Option.some.inj H
        subst H
        exact zs_ireturn zd_134_46 (by decide +kernel)
      · rw [if_neg c3] at H
        rw [zp_if_eq_f (x := r2) (t := 45) zd_134_12 rfl c3]
        rw [zs_aload_n (ls := [some (.ref 64), some (.int v1), some (.int v2)]) zd_134_15 rfl]
        rw [zs_getR (n := 119) (K := zx_pk (zK L) 119) (ρ := zR) (c := 8) (k := 2) (q := 64) (p := 65) zd_134_16 rfl rfl rfl (by decide) rfl]
        rw [zs_iload_n (ls := [some (.ref 64), some (.int v1), some (.int v2)]) zd_134_19 rfl]
        rw [zs_iconst (z := 5) zd_134_20 (by decide)]
        rw [zp_imul (x := v1) (y := 5) (z := (v1 * 5)) zd_134_21 rfl]
        rw [zs_iload_n (ls := [some (.ref 64), some (.int v1), some (.int v2)]) zd_134_22 rfl]
        rw [zp_iadd (x := (v1 * 5)) (y := v2) (z := ((v1 * 5) + v2)) zd_134_23 rfl]
        by_cases c4 : 0 ≤ ((v1 * 5) + v2) ∧ ((v1 * 5) + v2) < 20000
        · rw [if_pos c4] at H
          rw [zp_iaload (n := 119) (K := zx_pk (zK L) 119) (σ := σ) (q := 65) (m := 20000) (i := ((v1 * 5) + v2)) (k := ((v1 * 5) + v2).toNatClampNeg) (v := (σ 65 ((v1 * 5) + v2).toNatClampNeg)) zd_134_24 rfl (by decide) (zJ_in c4 rfl) rfl rfl]
          rw [zs_aload_n (ls := [some (.ref 64), some (.int v1), some (.int v2)]) zd_134_25 rfl]
          rw [zs_getR (n := 119) (K := zx_pk (zK L) 119) (ρ := zR) (c := 8) (k := 1) (q := 64) (p := 35) zd_134_26 rfl rfl rfl (by decide) rfl]
          rw [zs_getR (n := 119) (K := zx_pk (zK L) 119) (ρ := zR) (c := 2) (k := 5) (q := 35) (p := 40) zd_134_29 rfl rfl rfl (by decide) rfl]
          rw [zs_iload_n (ls := [some (.ref 64), some (.int v1), some (.int v2)]) zd_134_32 rfl]
          by_cases c5 : 0 ≤ v2 ∧ v2 < 5
          · rw [if_pos c5] at H
            rw [zp_iaload (n := 119) (K := zx_pk (zK L) 119) (σ := σ) (q := 40) (m := 5) (i := v2) (k := v2.toNatClampNeg) (v := (σ 40 v2.toNatClampNeg)) zd_134_33 rfl (by decide) (zJ_in c5 rfl) rfl rfl]
            by_cases c6 : (σ 65 ((v1 * 5) + v2).toNatClampNeg) = (σ 40 v2.toNatClampNeg)
            · rw [if_pos c6] at H
              rw [zp_icmp_eq_t (x := (σ 65 ((v1 * 5) + v2).toNatClampNeg)) (y := (σ 40 v2.toNatClampNeg)) (t := 39) zd_134_34 rfl c6]
              rw [zs_iinc (ls := [some (.ref 64), some (.int v1), some (.int v2)]) (x := v2) (z := (v2 + 1)) (ls' := [some (.ref 64), some (.int v1), some (.int (v2 + 1))]) zd_134_39 rfl rfl rfl]
              rw [zs_goto (t := 2) zd_134_42 rfl]
              exact ih H
            · rw [if_neg c6] at H
              rw [zp_icmp_eq_f (x := (σ 65 ((v1 * 5) + v2).toNatClampNeg)) (y := (σ 40 v2.toNatClampNeg)) (t := 39) zd_134_34 rfl c6]
              rw [zs_iconst (z := 0) zd_134_37 (by decide)]
              have H := Option.some.inj H
              subst H
              exact zs_ireturn zd_134_38 (by decide +kernel)
          · rw [if_neg c5] at H
            cases H
        · rw [if_neg c4] at H
          cases H
set_option maxRecDepth 20000 in
theorem zt_Space_isComing_c1 {a b L N : Nat} {σ : zS} {τ : zT} {x1 : Int32} {r : Int32} (H : zf_Space_isComing_c1 N σ x1 = some r) : zx_go 1 134 0 [some (.ref 64), some (.int x1), none] [] ((119, a, b), zx_pk (zK L) 119, σ, τ, zR) = some (some (.int r), ((119, a, b), zx_pk (zK L) 119, σ, τ, zR)) := by
  unfold zf_Space_isComing_c1 at H
  rw [zs_iconst (z := 0) zd_134_0 (by decide)]
  rw [zs_istore_n (x := 0) (ls' := [some (.ref 64), some (.int x1), some (.int 0)]) zd_134_1 (Nat.le_of_ble_eq_true rfl) rfl]
  exact zt_Space_isComing_c1_2  H
set_option maxRecDepth 20000 in
theorem zt_Space_slotOfComing_c1_45 {a b L N : Nat} : ∀ {n : Nat} {σ : zS} {τ : zT} {v2 : Int32} {v3 : Int32} {o1 : Option Value} {r : Int32}, zb_Space_slotOfComing_c1_45 N n σ v2 v3 = some r → zx_go 2 133 45 [some (.ref 64), o1, some (.int v2), some (.int v3)] [] ((119, a, b), zx_pk (zK L) 119, σ, τ, zR) = some (some (.int r), ((119, a, b), zx_pk (zK L) 119, σ, τ, zR)) := by
  intro n
  induction n with
  | zero =>
    intro _ _ _ _ _ _ H
    cases H
  | succ n ih =>
    intro σ τ v2 v3 o1 r H
    rw [zb_Space_slotOfComing_c1_45] at H
    rw [zs_iload_n (ls := [some (.ref 64), o1, some (.int v2), some (.int v3)]) zd_133_45 rfl]
    rw [zs_sipush (z := 8192) zd_133_46 (by decide)]
    by_cases c2 : 8192 ≤ v3
    · rw [if_pos c2] at H
      rw [zp_icmp_ge_t (x := v3) (y := 8192) (t := 92) zd_133_49 rfl c2]
      rw [zs_iload_n (ls := [some (.ref 64), o1, some (.int v2), some (.int v3)]) zd_133_92 rfl]
      have H := Option.some.inj H
      subst H
      exact zs_ireturn zd_133_93 rfl
    · rw [if_neg c2] at H
      rw [zp_icmp_ge_f (x := v3) (y := 8192) (t := 92) zd_133_49 rfl c2]
      rw [zs_aload_n (ls := [some (.ref 64), o1, some (.int v2), some (.int v3)]) zd_133_52 rfl]
      rw [zs_getR (n := 119) (K := zx_pk (zK L) 119) (ρ := zR) (c := 8) (k := 5) (q := 64) (p := 68) zd_133_53 rfl rfl rfl (by decide) rfl]
      rw [zs_iload_n (ls := [some (.ref 64), o1, some (.int v2), some (.int v3)]) zd_133_56 rfl]
      by_cases c3 : 0 ≤ v2 ∧ v2 < 8192
      · rw [if_pos c3] at H
        rw [zp_iaload (n := 119) (K := zx_pk (zK L) 119) (σ := σ) (q := 68) (m := 8192) (i := v2) (k := v2.toNatClampNeg) (v := (σ 68 v2.toNatClampNeg)) zd_133_57 rfl (by decide) (zJ_in c3 rfl) rfl rfl]
        by_cases c4 : (σ 68 v2.toNatClampNeg) = 0
        · rw [if_pos c4] at H
          rw [zp_if_eq_t (x := (σ 68 v2.toNatClampNeg)) (t := 92) zd_133_58 rfl c4]
          rw [zs_iload_n (ls := [some (.ref 64), o1, some (.int v2), some (.int v3)]) zd_133_92 rfl]
          have H := Option.some.inj H
          subst H
          exact zs_ireturn zd_133_93 rfl
        · rw [if_neg c4] at H
          rw [zp_if_eq_f (x := (σ 68 v2.toNatClampNeg)) (t := 92) zd_133_58 rfl c4]
          rw [zs_aload_n (ls := [some (.ref 64), o1, some (.int v2), some (.int v3)]) zd_133_61 rfl]
          rw [zs_aload_n (ls := [some (.ref 64), o1, some (.int v2), some (.int v3)]) zd_133_62 rfl]
          rw [zs_getR (n := 119) (K := zx_pk (zK L) 119) (ρ := zR) (c := 8) (k := 5) (q := 64) (p := 68) zd_133_63 rfl rfl rfl (by decide) rfl]
          rw [zs_iload_n (ls := [some (.ref 64), o1, some (.int v2), some (.int v3)]) zd_133_66 rfl]
          by_cases c5 : 0 ≤ v2 ∧ v2 < 8192
          · rw [if_pos c5] at H
            rw [zp_iaload (n := 119) (K := zx_pk (zK L) 119) (σ := σ) (q := 68) (m := 8192) (i := v2) (k := v2.toNatClampNeg) (v := (σ 68 v2.toNatClampNeg)) zd_133_67 rfl (by decide) (zJ_in c5 rfl) rfl rfl]
            rw [zs_iconst (z := 1) zd_133_68 (by decide)]
            rw [zp_isub (x := (σ 68 v2.toNatClampNeg)) (y := 1) (z := ((σ 68 v2.toNatClampNeg) - 1)) zd_133_69 rfl]
            obtain ⟨r6, hr6, H⟩ := Option.bind_eq_some_iff.mp H
            rw [zp_callVi (x := r6) (st := [.int ((σ 68 v2.toNatClampNeg) - 1), .ref 64]) (as := [.ref 64, .int ((σ 68 v2.toNatClampNeg) - 1)]) (rest := []) (e := 1) zd_133_70 rfl (by decide +kernel) (by decide) rfl rfl (Nat.le_of_ble_eq_true rfl) (zx_rcb_ok rfl (show 64 < 119 by decide)) (Nat.le_of_ble_eq_true rfl) rfl (by decide) (zt_Space_isComing_c1 hr6)]
            by_cases c7 : r6 = 0
            · rw [if_pos c7] at H
              rw [zp_if_eq_t (x := r6) (t := 78) zd_133_73 rfl c7]
              rw [zs_iload_n (ls := [some (.ref 64), o1, some (.int v2), some (.int v3)]) zd_133_78 rfl]
              rw [zs_iconst (z := 1) zd_133_79 (by decide)]
              rw [zp_iadd (x := v2) (y := 1) (z := (v2 + 1)) zd_133_80 rfl]
              rw [zs_sipush (z := 8191) zd_133_81 (by decide)]
              rw [zp_iand (x := (v2 + 1)) (y := 8191) (z := ((v2 + 1) &&& 8191)) zd_133_84 rfl]
              rw [zs_istore_n (x := ((v2 + 1) &&& 8191)) (ls' := [some (.ref 64), (zJ_cl o1), some (.int ((v2 + 1) &&& 8191)), some (.int v3)]) zd_133_85 (Nat.le_of_ble_eq_true rfl) (zJ_s1 (k := 1) (o := o1) rfl)]
              rw [zs_iinc (ls := [some (.ref 64), (zJ_cl o1), some (.int ((v2 + 1) &&& 8191)), some (.int v3)]) (x := v3) (z := (v3 + 1)) (ls' := [some (.ref 64), (zJ_cl o1), some (.int ((v2 + 1) &&& 8191)), some (.int (v3 + 1))]) zd_133_86 rfl rfl rfl]
              rw [zs_goto (t := 45) zd_133_89 rfl]
              exact ih H
            · rw [if_neg c7] at H
              rw [zp_if_eq_f (x := r6) (t := 78) zd_133_73 rfl c7]
              rw [zs_iload_n (ls := [some (.ref 64), o1, some (.int v2), some (.int v3)]) zd_133_76 rfl]
              have H := Option.some.inj H
              subst H
              exact zs_ireturn zd_133_77 rfl
          · rw [if_neg c5] at H
            cases H
      · rw [if_neg c3] at H
        cases H
set_option maxRecDepth 20000 in
theorem zt_Space_slotOfComing_c1_4 {a b L N : Nat} : ∀ {n : Nat} {σ : zS} {τ : zT} {v1 : Int32} {v2 : Int32} {o3 : Option Value} {r : Int32}, zb_Space_slotOfComing_c1_4 N n σ v1 v2 = some r → zx_go 2 133 4 [some (.ref 64), some (.int v1), some (.int v2), o3] [] ((119, a, b), zx_pk (zK L) 119, σ, τ, zR) = some (some (.int r), ((119, a, b), zx_pk (zK L) 119, σ, τ, zR)) := by
  intro n
  induction n with
  | zero =>
    intro _ _ _ _ _ _ H
    cases H
  | succ n ih =>
    intro σ τ v1 v2 o3 r H
    rw [zb_Space_slotOfComing_c1_4] at H
    rw [zs_iload_n (ls := [some (.ref 64), some (.int v1), some (.int v2), o3]) zd_133_4 rfl]
    rw [zs_iconst (z := 5) zd_133_5 (by decide)]
    by_cases c1 : 5 ≤ v2
    · rw [if_pos c1] at H
      rw [zp_icmp_ge_t (x := v2) (y := 5) (t := 37) zd_133_6 rfl c1]
      rw [zs_iload_n (ls := [some (.ref 64), some (.int v1), some (.int v2), o3]) zd_133_37 rfl]
      rw [zs_sipush (z := 8191) zd_133_38 (by decide)]
      rw [zp_iand (x := v1) (y := 8191) (z := (v1 &&& 8191)) zd_133_41 rfl]
      rw [zs_istore_n (x := (v1 &&& 8191)) (ls' := [some (.ref 64), some (.int v1), some (.int (v1 &&& 8191)), o3]) zd_133_42 (Nat.le_of_ble_eq_true rfl) rfl]
      rw [zs_iconst (z := 0) zd_133_43 (by decide)]
      rw [zs_istore_n (x := 0) (ls' := [some (.ref 64), some (.int v1), some (.int (v1 &&& 8191)), some (.int 0)]) zd_133_44 (Nat.le_of_ble_eq_true rfl) rfl]
      exact zt_Space_slotOfComing_c1_45  H
    · rw [if_neg c1] at H
      rw [zp_icmp_ge_f (x := v2) (y := 5) (t := 37) zd_133_6 rfl c1]
      rw [zs_iload_n (ls := [some (.ref 64), some (.int v1), some (.int v2), o3]) zd_133_9 rfl]
      rw [zs_aload_n (ls := [some (.ref 64), some (.int v1), some (.int v2), o3]) zd_133_10 rfl]
      rw [zs_getR (n := 119) (K := zx_pk (zK L) 119) (ρ := zR) (c := 8) (k := 1) (q := 64) (p := 35) zd_133_11 rfl rfl rfl (by decide) rfl]
      rw [zs_getR (n := 119) (K := zx_pk (zK L) 119) (ρ := zR) (c := 2) (k := 5) (q := 35) (p := 40) zd_133_14 rfl rfl rfl (by decide) rfl]
      rw [zs_iload_n (ls := [some (.ref 64), some (.int v1), some (.int v2), o3]) zd_133_17 rfl]
      by_cases c8 : 0 ≤ v2 ∧ v2 < 5
      · rw [if_pos c8] at H
        rw [zp_iaload (n := 119) (K := zx_pk (zK L) 119) (σ := σ) (q := 40) (m := 5) (i := v2) (k := v2.toNatClampNeg) (v := (σ 40 v2.toNatClampNeg)) zd_133_18 rfl (by decide) (zJ_in c8 rfl) rfl rfl]
        rw [zp_ixor (x := v1) (y := (σ 40 v2.toNatClampNeg)) (z := (v1 ^^^ (σ 40 v2.toNatClampNeg))) zd_133_19 rfl]
        rw [zs_ldc (x := (-1640531535)) zd_133_20 rfl]
        rw [zp_imul (x := (v1 ^^^ (σ 40 v2.toNatClampNeg))) (y := (-1640531535)) (z := ((v1 ^^^ (σ 40 v2.toNatClampNeg)) * (-1640531535))) zd_133_22 rfl]
        rw [zs_istore_n (x := ((v1 ^^^ (σ 40 v2.toNatClampNeg)) * (-1640531535))) (ls' := [some (.ref 64), some (.int ((v1 ^^^ (σ 40 v2.toNatClampNeg)) * (-1640531535))), some (.int v2), o3]) zd_133_23 (Nat.le_of_ble_eq_true rfl) rfl]
        rw [zs_iload_n (ls := [some (.ref 64), some (.int ((v1 ^^^ (σ 40 v2.toNatClampNeg)) * (-1640531535))), some (.int v2), o3]) zd_133_24 rfl]
        rw [zs_iload_n (ls := [some (.ref 64), some (.int ((v1 ^^^ (σ 40 v2.toNatClampNeg)) * (-1640531535))), some (.int v2), o3]) zd_133_25 rfl]
        rw [zs_bipush (z := 15) zd_133_26 (by decide)]
        rw [zp_iushr (x := ((v1 ^^^ (σ 40 v2.toNatClampNeg)) * (-1640531535))) (y := 15) (z := (zJ_ushr ((v1 ^^^ (σ 40 v2.toNatClampNeg)) * (-1640531535)) 15)) zd_133_28 rfl]
        rw [zp_ixor (x := ((v1 ^^^ (σ 40 v2.toNatClampNeg)) * (-1640531535))) (y := (zJ_ushr ((v1 ^^^ (σ 40 v2.toNatClampNeg)) * (-1640531535)) 15)) (z := (((v1 ^^^ (σ 40 v2.toNatClampNeg)) * (-1640531535)) ^^^ (zJ_ushr ((v1 ^^^ (σ 40 v2.toNatClampNeg)) * (-1640531535)) 15))) zd_133_29 rfl]
        rw [zs_istore_n (x := (((v1 ^^^ (σ 40 v2.toNatClampNeg)) * (-1640531535)) ^^^ (zJ_ushr ((v1 ^^^ (σ 40 v2.toNatClampNeg)) * (-1640531535)) 15))) (ls' := [some (.ref 64), some (.int (((v1 ^^^ (σ 40 v2.toNatClampNeg)) * (-1640531535)) ^^^ (zJ_ushr ((v1 ^^^ (σ 40 v2.toNatClampNeg)) * (-1640531535)) 15))), some (.int v2), o3]) zd_133_30 (Nat.le_of_ble_eq_true rfl) rfl]
        rw [zs_iinc (ls := [some (.ref 64), some (.int (((v1 ^^^ (σ 40 v2.toNatClampNeg)) * (-1640531535)) ^^^ (zJ_ushr ((v1 ^^^ (σ 40 v2.toNatClampNeg)) * (-1640531535)) 15))), some (.int v2), o3]) (x := v2) (z := (v2 + 1)) (ls' := [some (.ref 64), some (.int (((v1 ^^^ (σ 40 v2.toNatClampNeg)) * (-1640531535)) ^^^ (zJ_ushr ((v1 ^^^ (σ 40 v2.toNatClampNeg)) * (-1640531535)) 15))), some (.int (v2 + 1)), o3]) zd_133_31 rfl rfl rfl]
        rw [zs_goto (t := 4) zd_133_34 rfl]
        exact ih H
      · rw [if_neg c8] at H
        cases H
set_option maxRecDepth 20000 in
theorem zt_Space_slotOfComing_c1 {a b L N : Nat} {σ : zS} {τ : zT} {r : Int32} (H : zf_Space_slotOfComing_c1 N σ = some r) : zx_go 2 133 0 [some (.ref 64), none, none, none] [] ((119, a, b), zx_pk (zK L) 119, σ, τ, zR) = some (some (.int r), ((119, a, b), zx_pk (zK L) 119, σ, τ, zR)) := by
  unfold zf_Space_slotOfComing_c1 at H
  rw [zs_iconst (z := 0) zd_133_0 (by decide)]
  rw [zs_istore_n (x := 0) (ls' := [some (.ref 64), some (.int 0), none, none]) zd_133_1 (Nat.le_of_ble_eq_true rfl) rfl]
  rw [zs_iconst (z := 0) zd_133_2 (by decide)]
  rw [zs_istore_n (x := 0) (ls' := [some (.ref 64), some (.int 0), some (.int 0), none]) zd_133_3 (Nat.le_of_ble_eq_true rfl) rfl]
  exact zt_Space_slotOfComing_c1_4  H
set_option maxRecDepth 20000 in
theorem zt_Space_note_c1 {a b L N : Nat} {σ : zS} {τ : zT} {x1 : Int32} {r : Int32 × zS} (H : zf_Space_note_c1 N σ x1 = some r) : zx_go 3 132 0 [some (.ref 64), some (.int x1), none] [] ((119, a, b), zx_pk (zK L) 119, σ, τ, zR) = some (some (.int r.1), ((119, a, b), zx_pk (zK L) 119, r.2, τ, zR)) := by
  unfold zf_Space_note_c1 at H
  rw [zs_aload_n (ls := [some (.ref 64), some (.int x1), none]) zd_132_0 rfl]
  obtain ⟨r1, hr1, H⟩ := Option.bind_eq_some_iff.mp H
  rw [zp_callVi (x := r1) (st := [.ref 64]) (as := [.ref 64]) (rest := []) (e := 2) zd_132_1 rfl (by decide +kernel) (by decide) rfl rfl (Nat.le_of_ble_eq_true rfl) (zx_rcb_ok rfl (show 64 < 119 by decide)) (Nat.le_of_ble_eq_true rfl) rfl (by decide) (zt_Space_slotOfComing_c1 hr1)]
  rw [zs_istore_n (x := r1) (ls' := [some (.ref 64), some (.int x1), some (.int r1)]) zd_132_4 (Nat.le_of_ble_eq_true rfl) rfl]
  rw [zs_aload_n (ls := [some (.ref 64), some (.int x1), some (.int r1)]) zd_132_5 rfl]
  rw [zs_getR (n := 119) (K := zx_pk (zK L) 119) (ρ := zR) (c := 8) (k := 5) (q := 64) (p := 68) zd_132_6 rfl rfl rfl (by decide) rfl]
  rw [zs_iload_n (ls := [some (.ref 64), some (.int x1), some (.int r1)]) zd_132_9 rfl]
  by_cases c2 : 0 ≤ r1 ∧ r1 < 8192
  · rw [if_pos c2] at H
    rw [zp_iaload (n := 119) (K := zx_pk (zK L) 119) (σ := σ) (q := 68) (m := 8192) (i := r1) (k := r1.toNatClampNeg) (v := (σ 68 r1.toNatClampNeg)) zd_132_10 rfl (by decide) (zJ_in c2 rfl) rfl rfl]
    by_cases c3 : (σ 68 r1.toNatClampNeg) = 0
    · rw [if_pos c3] at H
      rw [zp_if_eq_t (x := (σ 68 r1.toNatClampNeg)) (t := 16) zd_132_11 rfl c3]
      rw [zs_aload_n (ls := [some (.ref 64), some (.int x1), some (.int r1)]) zd_132_16 rfl]
      rw [zp_getI (n := 119) (K := zx_pk (zK L) 119) (σ := σ) (c := 8) (k := 6) (q := 64) (v := (σ 64 6)) zd_132_17 rfl rfl rfl (by decide) rfl]
      by_cases c4 : (σ 64 6) < 0
      · rw [if_pos c4] at H
        rw [zp_if_lt_t (x := (σ 64 6)) (t := 33) zd_132_20 rfl c4]
        rw [zs_iconst (z := 0) zd_132_33 (by decide)]
        have H := Option.some.inj H
        subst H
        exact zs_ireturn zd_132_34 (by decide +kernel)
      · rw [if_neg c4] at H
        rw [zp_if_lt_f (x := (σ 64 6)) (t := 33) zd_132_20 rfl c4]
        rw [zs_aload_n (ls := [some (.ref 64), some (.int x1), some (.int r1)]) zd_132_23 rfl]
        rw [zp_getI (n := 119) (K := zx_pk (zK L) 119) (σ := σ) (c := 8) (k := 6) (q := 64) (v := (σ 64 6)) zd_132_24 rfl rfl rfl (by decide) rfl]
        rw [zs_sipush (z := 4000) zd_132_27 (by decide)]
        by_cases c5 : (σ 64 6) < 4000
        · rw [if_pos c5] at H
          rw [zp_icmp_lt_t (x := (σ 64 6)) (y := 4000) (t := 35) zd_132_30 rfl c5]
          rw [zs_aload_n (ls := [some (.ref 64), some (.int x1), some (.int r1)]) zd_132_35 rfl]
          rw [zs_getR (n := 119) (K := zx_pk (zK L) 119) (ρ := zR) (c := 8) (k := 1) (q := 64) (p := 35) zd_132_36 rfl rfl rfl (by decide) rfl]
          rw [zs_getR (n := 119) (K := zx_pk (zK L) 119) (ρ := zR) (c := 2) (k := 5) (q := 35) (p := 40) zd_132_39 rfl rfl rfl (by decide) rfl]
          rw [zs_iconst (z := 0) zd_132_42 (by decide)]
          rw [zs_aload_n (ls := [some (.ref 64), some (.int x1), some (.int r1)]) zd_132_43 rfl]
          rw [zs_getR (n := 119) (K := zx_pk (zK L) 119) (ρ := zR) (c := 8) (k := 2) (q := 64) (p := 65) zd_132_44 rfl rfl rfl (by decide) rfl]
          rw [zs_aload_n (ls := [some (.ref 64), some (.int x1), some (.int r1)]) zd_132_47 rfl]
          rw [zp_getI (n := 119) (K := zx_pk (zK L) 119) (σ := σ) (c := 8) (k := 6) (q := 64) (v := (σ 64 6)) zd_132_48 rfl rfl rfl (by decide) rfl]
          rw [zs_iconst (z := 5) zd_132_51 (by decide)]
          rw [zp_imul (x := (σ 64 6)) (y := 5) (z := ((σ 64 6) * 5)) zd_132_52 rfl]
          rw [zs_iconst (z := 5) zd_132_53 (by decide)]
          by_cases c6 : 0 ≤ ((σ 64 6) * 5) ∧ ((σ 64 6) * 5) ≤ 19995
          · rw [if_pos c6] at H
            rw [zp_copy (r := []) (n := 119) (K := zx_pk (zK L) 119) (σ := σ) (a := 40) (b := 65) (n0 := 5) (n1 := 20000) (sp := 0) (dp := ((σ 64 6) * 5)) (m := 5) zd_132_54 rfl (Nat.le_of_ble_eq_true rfl) rfl rfl ⟨by decide, by decide⟩ (zJ_cpi (c0 := 0) (c1 := 19995) ⟨by decide, by decide, c6.1, c6.2⟩ (by decide) (by decide) (by decide))]
            rw [zs_aload_n (ls := [some (.ref 64), some (.int x1), some (.int r1)]) zd_132_57 rfl]
            rw [zs_getR (n := 119) (K := zx_pk (zK L) 119) (ρ := zR) (c := 8) (k := 3) (q := 64) (p := 66) zd_132_58 rfl rfl rfl (by decide) rfl]
            rw [zs_aload_n (ls := [some (.ref 64), some (.int x1), some (.int r1)]) zd_132_61 rfl]
            rw [zp_getI (n := 119) (K := zx_pk (zK L) 119) (σ := (zJ_copy σ 40 65 0 ((σ 64 6) * 5) 5)) (c := 8) (k := 6) (q := 64) (v := ((zJ_copy σ 40 65 0 ((σ 64 6) * 5) 5) 64 6)) zd_132_62 rfl rfl rfl (by decide) rfl]
            rw [zs_iload_n (ls := [some (.ref 64), some (.int x1), some (.int r1)]) zd_132_65 rfl]
            by_cases c7 : 0 ≤ ((zJ_copy σ 40 65 0 ((σ 64 6) * 5) 5) 64 6) ∧ ((zJ_copy σ 40 65 0 ((σ 64 6) * 5) 5) 64 6) < 4000
            · rw [if_pos c7] at H
              rw [zp_iastore (n := 119) (K := zx_pk (zK L) 119) (q := 66) (m := 4000) (i := ((zJ_copy σ 40 65 0 ((σ 64 6) * 5) 5) 64 6)) (k := ((zJ_copy σ 40 65 0 ((σ 64 6) * 5) 5) 64 6).toNatClampNeg) (x := x1) (z := x1) zd_132_66 rfl ⟨by decide, by decide⟩ (zJ_in c7 rfl) rfl rfl]
              rw [zs_aload_n (ls := [some (.ref 64), some (.int x1), some (.int r1)]) zd_132_67 rfl]
              rw [zs_dup (a := .ref 64) zd_132_68 rfl]
              rw [zp_getI (n := 119) (K := zx_pk (zK L) 119) (σ := (zx_up (zJ_copy σ 40 65 0 ((σ 64 6) * 5) 5) 66 ((zJ_copy σ 40 65 0 ((σ 64 6) * 5) 5) 64 6).toNatClampNeg x1)) (c := 8) (k := 6) (q := 64) (v := ((zJ_copy σ 40 65 0 ((σ 64 6) * 5) 5) 64 6)) zd_132_69 rfl rfl rfl (by decide) (show ((zx_up (zJ_copy σ 40 65 0 ((σ 64 6) * 5) 5) 66 ((zJ_copy σ 40 65 0 ((σ 64 6) * 5) 5) 64 6).toNatClampNeg x1) : zS) 64 6 = ((zJ_copy σ 40 65 0 ((σ 64 6) * 5) 5) 64 6) from ((zx_up_ne (by decide)).trans rfl))]
              rw [zs_iconst (z := 1) zd_132_72 (by decide)]
              rw [zp_iadd (x := ((zJ_copy σ 40 65 0 ((σ 64 6) * 5) 5) 64 6)) (y := 1) (z := (((zJ_copy σ 40 65 0 ((σ 64 6) * 5) 5) 64 6) + 1)) zd_132_73 rfl]
              rw [zs_putI (n := 119) (K := zx_pk (zK L) 119) (c := 8) (k := 6) (q := 64) (x := (((zJ_copy σ 40 65 0 ((σ 64 6) * 5) 5) 64 6) + 1)) zd_132_74 rfl rfl (by decide +kernel) rfl (by decide)]
              rw [zs_aload_n (ls := [some (.ref 64), some (.int x1), some (.int r1)]) zd_132_77 rfl]
              rw [zs_getR (n := 119) (K := zx_pk (zK L) 119) (ρ := zR) (c := 8) (k := 5) (q := 64) (p := 68) zd_132_78 rfl rfl rfl (by decide) rfl]
              rw [zs_iload_n (ls := [some (.ref 64), some (.int x1), some (.int r1)]) zd_132_81 rfl]
              rw [zs_aload_n (ls := [some (.ref 64), some (.int x1), some (.int r1)]) zd_132_82 rfl]
              rw [zp_getI (n := 119) (K := zx_pk (zK L) 119) (σ := (zx_up (zx_up (zJ_copy σ 40 65 0 ((σ 64 6) * 5) 5) 66 ((zJ_copy σ 40 65 0 ((σ 64 6) * 5) 5) 64 6).toNatClampNeg x1) 64 6 (((zJ_copy σ 40 65 0 ((σ 64 6) * 5) 5) 64 6) + 1))) (c := 8) (k := 6) (q := 64) (v := (((zJ_copy σ 40 65 0 ((σ 64 6) * 5) 5) 64 6) + 1)) zd_132_83 rfl rfl rfl (by decide) (show ((zx_up (zx_up (zJ_copy σ 40 65 0 ((σ 64 6) * 5) 5) 66 ((zJ_copy σ 40 65 0 ((σ 64 6) * 5) 5) 64 6).toNatClampNeg x1) 64 6 (((zJ_copy σ 40 65 0 ((σ 64 6) * 5) 5) 64 6) + 1)) : zS) 64 6 = (((zJ_copy σ 40 65 0 ((σ 64 6) * 5) 5) 64 6) + 1) from zx_up_at)]
              by_cases c8 : 0 ≤ r1 ∧ r1 < 8192
              · rw [if_pos c8] at H
                rw [zp_iastore (n := 119) (K := zx_pk (zK L) 119) (q := 68) (m := 8192) (i := r1) (k := r1.toNatClampNeg) (x := (((zJ_copy σ 40 65 0 ((σ 64 6) * 5) 5) 64 6) + 1)) (z := (((zJ_copy σ 40 65 0 ((σ 64 6) * 5) 5) 64 6) + 1)) zd_132_86 rfl ⟨by decide, by decide⟩ (zJ_in c8 rfl) rfl rfl]
                rw [zs_iconst (z := 1) zd_132_87 (by decide)]
                have H := Option.some.inj H
                subst H
                exact zs_ireturn zd_132_88 (by decide +kernel)
              · rw [if_neg c8] at H
                cases H
            · rw [if_neg c7] at H
              cases H
          · rw [if_neg c6] at H
            cases H
        · rw [if_neg c5] at H
          rw [zp_icmp_lt_f (x := (σ 64 6)) (y := 4000) (t := 35) zd_132_30 rfl c5]
          rw [zs_iconst (z := 0) zd_132_33 (by decide)]
          have H := Option.some.inj H
          subst H
          exact zs_ireturn zd_132_34 (by decide +kernel)
    · rw [if_neg c3] at H
      rw [zp_if_eq_f (x := (σ 68 r1.toNatClampNeg)) (t := 16) zd_132_11 rfl c3]
      rw [zs_iconst (z := 1) zd_132_14 (by decide)]
      have H := Option.some.inj H
      subst H
      exact zs_ireturn zd_132_15 (by decide +kernel)
  · rw [if_neg c2] at H
    cases H
set_option maxRecDepth 20000 in
theorem zt_Machine_load_c1_130 {a b L N : Nat} {k34 : zS → Int32 → Option (zS)} (hk34 : ∀ {σ : zS} {τ : zT} {v3 : Int32} {o1 : Option Value} {o2 : Option Value} {o4 : Option Value} {o5 : Option Value} {o6 : Option Value} {r : zS}, k34 σ v3 = some r → zx_go 2 138 34 [some (.ref 35), o1, o2, some (.int v3), o4, o5, o6] [] ((119, a, b), zx_pk (zK L) 119, σ, τ, zR) = some (none, ((119, a, b), zx_pk (zK L) 119, r, τ, zR))) {σ : zS} {τ : zT} {v3 : Int32} {o1 : Option Value} {o2 : Option Value} {o4 : Option Value} {o5 : Option Value} {o6 : Option Value} {r : zS} (H : zb_Machine_load_c1_130 k34 N σ v3 = some r) : zx_go 2 138 130 [some (.ref 35), o1, o2, some (.int v3), o4, o5, o6] [] ((119, a, b), zx_pk (zK L) 119, σ, τ, zR) = some (none, ((119, a, b), zx_pk (zK L) 119, r, τ, zR)) := by
  unfold zb_Machine_load_c1_130 at H
  rw [zs_iinc (ls := [some (.ref 35), o1, o2, some (.int v3), o4, o5, o6]) (x := v3) (z := (v3 + 1)) (ls' := [some (.ref 35), o1, (zJ_cl o2), some (.int (v3 + 1)), o4, o5, o6]) zd_138_130 rfl rfl (zJ_s1 (k := 2) (o := o2) rfl)]
  rw [zs_goto (t := 34) zd_138_133 rfl]
  exact hk34 H
set_option maxRecDepth 20000 in
theorem zt_Machine_load_c1_124 {a b L N : Nat} {k95 : zS → Int32 → Int32 → Int32 → Option (zS)} (hk95 : ∀ {σ : zS} {τ : zT} {v3 : Int32} {v5 : Int32} {v6 : Int32} {o1 : Option Value} {o2 : Option Value} {o4 : Option Value} {r : zS}, k95 σ v3 v5 v6 = some r → zx_go 2 138 95 [some (.ref 35), o1, o2, some (.int v3), o4, some (.int v5), some (.int v6)] [] ((119, a, b), zx_pk (zK L) 119, σ, τ, zR) = some (none, ((119, a, b), zx_pk (zK L) 119, r, τ, zR))) {σ : zS} {τ : zT} {v3 : Int32} {v5 : Int32} {v6 : Int32} {o1 : Option Value} {o2 : Option Value} {o4 : Option Value} {r : zS} (H : zb_Machine_load_c1_124 k95 N σ v3 v5 v6 = some r) : zx_go 2 138 124 [some (.ref 35), o1, o2, some (.int v3), o4, some (.int v5), some (.int v6)] [] ((119, a, b), zx_pk (zK L) 119, σ, τ, zR) = some (none, ((119, a, b), zx_pk (zK L) 119, r, τ, zR)) := by
  unfold zb_Machine_load_c1_124 at H
  rw [zs_iinc (ls := [some (.ref 35), o1, o2, some (.int v3), o4, some (.int v5), some (.int v6)]) (x := v6) (z := (v6 + 1)) (ls' := [some (.ref 35), o1, o2, some (.int v3), o4, some (.int v5), some (.int (v6 + 1))]) zd_138_124 rfl rfl rfl]
  rw [zs_goto (t := 95) zd_138_127 rfl]
  exact hk95 H
set_option maxRecDepth 20000 in
theorem zt_Machine_load_c1_95 {a b L N : Nat} {k34 : zS → Int32 → Option (zS)} (hk34 : ∀ {σ : zS} {τ : zT} {v3 : Int32} {o1 : Option Value} {o2 : Option Value} {o4 : Option Value} {o5 : Option Value} {o6 : Option Value} {r : zS}, k34 σ v3 = some r → zx_go 2 138 34 [some (.ref 35), o1, o2, some (.int v3), o4, o5, o6] [] ((119, a, b), zx_pk (zK L) 119, σ, τ, zR) = some (none, ((119, a, b), zx_pk (zK L) 119, r, τ, zR))) : ∀ {n : Nat} {σ : zS} {τ : zT} {v3 : Int32} {v5 : Int32} {v6 : Int32} {o1 : Option Value} {o2 : Option Value} {o4 : Option Value} {r : zS}, zb_Machine_load_c1_95 k34 N n σ v3 v5 v6 = some r → zx_go 2 138 95 [some (.ref 35), o1, o2, some (.int v3), o4, some (.int v5), some (.int v6)] [] ((119, a, b), zx_pk (zK L) 119, σ, τ, zR) = some (none, ((119, a, b), zx_pk (zK L) 119, r, τ, zR)) := by
  intro n
  induction n with
  | zero =>
    intro _ _ _ _ _ _ _ _ _ H
    cases H
  | succ n ih =>
    intro σ τ v3 v5 v6 o1 o2 o4 r H
    rw [zb_Machine_load_c1_95] at H
    rw [zs_iload (ls := [some (.ref 35), o1, o2, some (.int v3), o4, some (.int v5), some (.int v6)]) zd_138_95 rfl]
    rw [zs_iconst (z := 4) zd_138_97 (by decide)]
    by_cases c11 : 4 ≤ v6
    · rw [if_pos c11] at H
      rw [zp_icmp_ge_t (x := v6) (y := 4) (t := 130) zd_138_98 rfl c11]
      exact zt_Machine_load_c1_130 (hk34 := hk34) H
    · rw [if_neg c11] at H
      rw [zp_icmp_ge_f (x := v6) (y := 4) (t := 130) zd_138_98 rfl c11]
      rw [zs_iload (ls := [some (.ref 35), o1, o2, some (.int v3), o4, some (.int v5), some (.int v6)]) zd_138_101 rfl]
      by_cases c12 : v5 = 0
      · rw [if_pos c12] at H
        rw [zp_if_eq_t (x := v5) (t := 130) zd_138_103 rfl c12]
        exact zt_Machine_load_c1_130 (hk34 := hk34) H
      · rw [if_neg c12] at H
        rw [zp_if_eq_f (x := v5) (t := 130) zd_138_103 rfl c12]
        rw [zs_iload (ls := [some (.ref 35), o1, o2, some (.int v3), o4, some (.int v5), some (.int v6)]) zd_138_106 rfl]
        rw [zs_iload (ls := [some (.ref 35), o1, o2, some (.int v3), o4, some (.int v5), some (.int v6)]) zd_138_108 rfl]
        rw [zp_iushr (x := v5) (y := v6) (z := (zJ_ushr v5 v6)) zd_138_110 rfl]
        rw [zs_iconst (z := 1) zd_138_111 (by decide)]
        rw [zp_iand (x := (zJ_ushr v5 v6)) (y := 1) (z := ((zJ_ushr v5 v6) &&& 1)) zd_138_112 rfl]
        by_cases c13 : ((zJ_ushr v5 v6) &&& 1) = 0
        · rw [if_pos c13] at H
          rw [zp_if_eq_t (x := ((zJ_ushr v5 v6) &&& 1)) (t := 124) zd_138_113 rfl c13]
          exact zt_Machine_load_c1_124 (hk95 := ih) H
        · rw [if_neg c13] at H
          rw [zp_if_eq_f (x := ((zJ_ushr v5 v6) &&& 1)) (t := 124) zd_138_113 rfl c13]
          rw [zs_aload_n (ls := [some (.ref 35), o1, o2, some (.int v3), o4, some (.int v5), some (.int v6)]) zd_138_116 rfl]
          rw [zs_getR (n := 119) (K := zx_pk (zK L) 119) (ρ := zR) (c := 2) (k := 3) (q := 35) (p := 38) zd_138_117 rfl rfl rfl (by decide) rfl]
          rw [zs_iload (ls := [some (.ref 35), o1, o2, some (.int v3), o4, some (.int v5), some (.int v6)]) zd_138_120 rfl]
          rw [zs_iload_n (ls := [some (.ref 35), o1, o2, some (.int v3), o4, some (.int v5), some (.int v6)]) zd_138_122 rfl]
          by_cases c14 : 0 ≤ v6 ∧ v6 < 4
          · rw [if_pos c14] at H
            rw [zp_iastore (n := 119) (K := zx_pk (zK L) 119) (q := 38) (m := 4) (i := v6) (k := v6.toNatClampNeg) (x := v3) (z := v3) zd_138_123 rfl ⟨by decide, by decide⟩ (zJ_in c14 rfl) rfl rfl]
            exact zt_Machine_load_c1_124 (hk95 := ih) H
          · rw [if_neg c14] at H
            cases H
set_option maxRecDepth 20000 in
theorem zt_Machine_load_c1_34 {a b L N : Nat} : ∀ {n : Nat} {σ : zS} {τ : zT} {v3 : Int32} {o1 : Option Value} {o2 : Option Value} {o4 : Option Value} {o5 : Option Value} {o6 : Option Value} {r : zS}, zb_Machine_load_c1_34 N n σ v3 = some r → zx_go 2 138 34 [some (.ref 35), o1, o2, some (.int v3), o4, o5, o6] [] ((119, a, b), zx_pk (zK L) 119, σ, τ, zR) = some (none, ((119, a, b), zx_pk (zK L) 119, r, τ, zR)) := by
  intro n
  induction n with
  | zero =>
    intro _ _ _ _ _ _ _ _ _ H
    cases H
  | succ n ih =>
    intro σ τ v3 o1 o2 o4 o5 o6 r H
    rw [zb_Machine_load_c1_34] at H
    rw [zs_iload_n (ls := [some (.ref 35), o1, o2, some (.int v3), o4, o5, o6]) zd_138_34 rfl]
    rw [zs_iconst (z := 4) zd_138_35 (by decide)]
    by_cases c5 : 4 ≤ v3
    · rw [if_pos c5] at H
      rw [zp_icmp_ge_t (x := v3) (y := 4) (t := 136) zd_138_36 rfl c5]
      have H := Option.some.inj H
      subst H
      exact zs_return zd_138_136 (by decide +kernel)
    · rw [if_neg c5] at H
      rw [zp_icmp_ge_f (x := v3) (y := 4) (t := 136) zd_138_36 rfl c5]
      rw [zs_aload_n (ls := [some (.ref 35), o1, o2, some (.int v3), o4, o5, o6]) zd_138_39 rfl]
      rw [zs_getR (n := 119) (K := zx_pk (zK L) 119) (ρ := zR) (c := 2) (k := 4) (q := 35) (p := 39) zd_138_40 rfl rfl rfl (by decide) rfl]
      rw [zs_iload_n (ls := [some (.ref 35), o1, o2, some (.int v3), o4, o5, o6]) zd_138_43 rfl]
      rw [zs_iconst (z := 1) zd_138_44 (by decide)]
      rw [zp_iadd (x := v3) (y := 1) (z := (v3 + 1)) zd_138_45 rfl]
      by_cases c6 : 0 ≤ (v3 + 1) ∧ (v3 + 1) < 5
      · rw [if_pos c6] at H
        rw [zp_iaload (n := 119) (K := zx_pk (zK L) 119) (σ := σ) (q := 39) (m := 5) (i := (v3 + 1)) (k := (v3 + 1).toNatClampNeg) (v := (σ 39 (v3 + 1).toNatClampNeg)) zd_138_46 rfl (by decide) (zJ_in c6 rfl) rfl rfl]
        rw [zs_istore (x := (σ 39 (v3 + 1).toNatClampNeg)) (ls' := [some (.ref 35), o1, o2, some (.int v3), some (.int (σ 39 (v3 + 1).toNatClampNeg)), o5, o6]) zd_138_47 (Nat.le_of_ble_eq_true rfl) rfl]
        rw [zs_aload_n (ls := [some (.ref 35), o1, o2, some (.int v3), some (.int (σ 39 (v3 + 1).toNatClampNeg)), o5, o6]) zd_138_49 rfl]
        rw [zs_getR (n := 119) (K := zx_pk (zK L) 119) (ρ := zR) (c := 2) (k := 1) (q := 35) (p := 36) zd_138_50 rfl rfl rfl (by decide) rfl]
        rw [zs_iload_n (ls := [some (.ref 35), o1, o2, some (.int v3), some (.int (σ 39 (v3 + 1).toNatClampNeg)), o5, o6]) zd_138_53 rfl]
        rw [zs_iload (ls := [some (.ref 35), o1, o2, some (.int v3), some (.int (σ 39 (v3 + 1).toNatClampNeg)), o5, o6]) zd_138_54 rfl]
        rw [zs_bipush (z := 14) zd_138_56 (by decide)]
        rw [zp_iushr (x := (σ 39 (v3 + 1).toNatClampNeg)) (y := 14) (z := (zJ_ushr (σ 39 (v3 + 1).toNatClampNeg) 14)) zd_138_58 rfl]
        rw [zs_bipush (z := 7) zd_138_59 (by decide)]
        rw [zp_iand (x := (zJ_ushr (σ 39 (v3 + 1).toNatClampNeg) 14)) (y := 7) (z := ((zJ_ushr (σ 39 (v3 + 1).toNatClampNeg) 14) &&& 7)) zd_138_61 rfl]
        by_cases c7 : 0 ≤ v3 ∧ v3 < 4
        · rw [if_pos c7] at H
          rw [zp_iastore (n := 119) (K := zx_pk (zK L) 119) (q := 36) (m := 4) (i := v3) (k := v3.toNatClampNeg) (x := ((zJ_ushr (σ 39 (v3 + 1).toNatClampNeg) 14) &&& 7)) (z := ((zJ_ushr (σ 39 (v3 + 1).toNatClampNeg) 14) &&& 7)) zd_138_62 rfl ⟨by decide, by decide⟩ (zJ_in c7 rfl) rfl rfl]
          rw [zs_aload_n (ls := [some (.ref 35), o1, o2, some (.int v3), some (.int (σ 39 (v3 + 1).toNatClampNeg)), o5, o6]) zd_138_63 rfl]
          rw [zs_getR (n := 119) (K := zx_pk (zK L) 119) (ρ := zR) (c := 2) (k := 2) (q := 35) (p := 37) zd_138_64 rfl rfl rfl (by decide) rfl]
          rw [zs_iload_n (ls := [some (.ref 35), o1, o2, some (.int v3), some (.int (σ 39 (v3 + 1).toNatClampNeg)), o5, o6]) zd_138_67 rfl]
          rw [zs_aload_n (ls := [some (.ref 35), o1, o2, some (.int v3), some (.int (σ 39 (v3 + 1).toNatClampNeg)), o5, o6]) zd_138_68 rfl]
          rw [zs_getR (n := 119) (K := zx_pk (zK L) 119) (ρ := zR) (c := 2) (k := 0) (q := 35) (p := 4) zd_138_69 rfl rfl rfl (by decide) rfl]
          rw [zs_iload_n (ls := [some (.ref 35), o1, o2, some (.int v3), some (.int (σ 39 (v3 + 1).toNatClampNeg)), o5, o6]) zd_138_72 rfl]
          rw [zs_iload (ls := [some (.ref 35), o1, o2, some (.int v3), some (.int (σ 39 (v3 + 1).toNatClampNeg)), o5, o6]) zd_138_73 rfl]
          rw [zs_bipush (z := 9) zd_138_75 (by decide)]
          rw [zp_iushr (x := (σ 39 (v3 + 1).toNatClampNeg)) (y := 9) (z := (zJ_ushr (σ 39 (v3 + 1).toNatClampNeg) 9)) zd_138_77 rfl]
          rw [zs_bipush (z := 31) zd_138_78 (by decide)]
          rw [zp_iand (x := (zJ_ushr (σ 39 (v3 + 1).toNatClampNeg) 9)) (y := 31) (z := ((zJ_ushr (σ 39 (v3 + 1).toNatClampNeg) 9) &&& 31)) zd_138_80 rfl]
          obtain ⟨r8, hr8, H⟩ := Option.bind_eq_some_iff.mp H
          rw [zp_callVi (x := r8) (st := [.int ((zJ_ushr (σ 39 (v3 + 1).toNatClampNeg) 9) &&& 31), .int v3, .ref 4, .int v3, .ref 37]) (as := [.ref 4, .int v3, .int ((zJ_ushr (σ 39 (v3 + 1).toNatClampNeg) 9) &&& 31)]) (rest := [.int v3, .ref 37]) (e := 0) zd_138_81 rfl (by decide +kernel) (by decide) rfl rfl (Nat.le_of_ble_eq_true rfl) (zx_rcb_ok rfl (show 4 < 119 by decide)) (Nat.le_of_ble_eq_true rfl) rfl (by decide) (zt_Program_slotOf hr8)]
          by_cases c9 : 0 ≤ v3 ∧ v3 < 4
          · rw [if_pos c9] at H
            rw [zp_iastore (n := 119) (K := zx_pk (zK L) 119) (q := 37) (m := 4) (i := v3) (k := v3.toNatClampNeg) (x := r8) (z := r8) zd_138_84 rfl ⟨by decide, by decide⟩ (zJ_in c9 rfl) rfl rfl]
            rw [zs_aload_n (ls := [some (.ref 35), o1, o2, some (.int v3), some (.int (σ 39 (v3 + 1).toNatClampNeg)), o5, o6]) zd_138_85 rfl]
            rw [zs_iload_n (ls := [some (.ref 35), o1, o2, some (.int v3), some (.int (σ 39 (v3 + 1).toNatClampNeg)), o5, o6]) zd_138_86 rfl]
            obtain ⟨r10, hr10, H⟩ := Option.bind_eq_some_iff.mp H
            rw [zp_callVi (x := r10) (st := [.int v3, .ref 35]) (as := [.ref 35, .int v3]) (rest := []) (e := 1) zd_138_87 rfl (by decide +kernel) (by decide) rfl rfl (Nat.le_of_ble_eq_true rfl) (zx_rcb_ok rfl (show 35 < 119 by decide)) (Nat.le_of_ble_eq_true rfl) rfl (by decide) (zt_Machine_locksOf hr10)]
            rw [zs_istore (x := r10) (ls' := [some (.ref 35), o1, o2, some (.int v3), some (.int (σ 39 (v3 + 1).toNatClampNeg)), some (.int r10), o6]) zd_138_90 (Nat.le_of_ble_eq_true rfl) rfl]
            rw [zs_iconst (z := 0) zd_138_92 (by decide)]
            rw [zs_istore (x := 0) (ls' := [some (.ref 35), o1, o2, some (.int v3), some (.int (σ 39 (v3 + 1).toNatClampNeg)), some (.int r10), some (.int 0)]) zd_138_93 (Nat.le_of_ble_eq_true rfl) rfl]
            exact zt_Machine_load_c1_95 (hk34 := ih) H
          · rw [if_neg c9] at H
            cases H
        · rw [if_neg c7] at H
          cases H
      · rw [if_neg c6] at H
        cases H
