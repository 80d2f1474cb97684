/-! theorems of the functions, by program -/
set_option maxRecDepth 20000 in
theorem zt_Arrays_fill_c6 {a b L N : Nat} {σ : zS} {τ : zT} {x2 : Int32} {r : zS} (H : zf_Arrays_fill_c6 N σ x2 = some r) : zx_go 0 22 0 [some (.ref 63), some (.int x2), none, none] [] ((119, a, b), zx_pk (zK L) 119, σ, τ, zR) = some (none, ((119, a, b), zx_pk (zK L) 119, r, τ, zR)) := by
  unfold zf_Arrays_fill_c6 at H
  rw [zs_iconst (z := 0) zd_22_0 (by decide)]
  rw [zs_istore_n (x := 0) (ls' := [some (.ref 63), some (.int x2), some (.int 0), none]) zd_22_1 (Nat.le_of_ble_eq_true rfl) rfl]
  rw [zs_aload_n (ls := [some (.ref 63), some (.int x2), some (.int 0), none]) zd_22_2 rfl]
  rw [zs_arraylength (n := 119) (K := zx_pk (zK L) 119) (q := 63) (m := 8192) (z := 8192) zd_22_3 rfl (by decide) (by decide)]
  rw [zs_istore_n (x := 8192) (ls' := [some (.ref 63), some (.int x2), some (.int 0), some (.int 8192)]) zd_22_4 (Nat.le_of_ble_eq_true rfl) rfl]
  exact zt_Arrays_fill_c6_5  H
set_option maxRecDepth 20000 in
theorem zt_Space_isLast {a b L : Nat} {σ : zS} {τ : zT} {x1 : Int32} {r : Int32} (H : zf_Space_isLast σ x1 = some r) : zx_go 1 161 0 [some (.ref 41), some (.int x1)] [] ((119, a, b), zx_pk (zK L) 119, σ, τ, zR) = some (some (.int r), ((119, a, b), zx_pk (zK L) 119, σ, τ, zR)) := by
  unfold zf_Space_isLast at H
  rw [zs_aload_n (ls := [some (.ref 41), some (.int x1)]) zd_161_0 rfl]
  rw [zs_iload_n (ls := [some (.ref 41), some (.int x1)]) zd_161_1 rfl]
  obtain ⟨r1, hr1, H⟩ := Option.bind_eq_some_iff.mp H
  rw [zp_callVi (x := r1) (st := [.int x1, .ref 41]) (as := [.ref 41, .int x1]) (rest := []) (e := 0) zd_161_2 rfl (by decide +kernel) (by decide) rfl rfl (Nat.le_of_ble_eq_true rfl) (zx_rcb_ok rfl (show 41 < 119 by decide)) (Nat.le_of_ble_eq_true rfl) rfl (by decide) (zt_Space_has hr1)]
  by_cases c2 : r1 = 0
  · rw [if_pos c2] at H
    rw [zp_if_eq_t (x := r1) (t := 21) zd_161_5 rfl c2]
    rw [zs_iconst (z := 0) zd_161_21 (by decide)]
    have H := Option.some.inj H
    subst H
    exact zs_ireturn zd_161_22 (by decide +kernel)
  · rw [if_neg c2] at H
    rw [zp_if_eq_f (x := r1) (t := 21) zd_161_5 rfl c2]
    rw [zs_aload_n (ls := [some (.ref 41), some (.int x1)]) zd_161_8 rfl]
    rw [zs_getR (n := 119) (K := zx_pk (zK L) 119) (ρ := zR) (c := 8) (k := 4) (q := 41) (p := 44) zd_161_9 rfl rfl rfl (by decide) rfl]
    rw [zs_iload_n (ls := [some (.ref 41), some (.int x1)]) zd_161_12 rfl]
    by_cases c3 : 0 ≤ x1 ∧ x1 < 4000
    · rw [if_pos c3] at H
      rw [zp_zaload (n := 119) (K := zx_pk (zK L) 119) (σ := σ) (q := 44) (m := 4000) (i := x1) (k := x1.toNatClampNeg) (v := (σ 44 x1.toNatClampNeg)) zd_161_13 rfl (by decide) (zJ_in c3 rfl) rfl rfl]
      by_cases c4 : (σ 44 x1.toNatClampNeg) = 0
      · rw [if_pos c4] at H
        rw [zp_if_eq_t (x := (σ 44 x1.toNatClampNeg)) (t := 21) zd_161_14 rfl c4]
        rw [zs_iconst (z := 0) zd_161_21 (by decide)]
        have H := Option.some.inj H
        subst H
        exact zs_ireturn zd_161_22 (by decide +kernel)
      · rw [if_neg c4] at H
        rw [zp_if_eq_f (x := (σ 44 x1.toNatClampNeg)) (t := 21) zd_161_14 rfl c4]
        rw [zs_iconst (z := 1) zd_161_17 (by decide)]
        rw [zs_goto (t := 22) zd_161_18 rfl]
        have H := Option.some.inj H
        subst H
        exact zs_ireturn zd_161_22 (by decide +kernel)
    · rw [if_neg c3] at H
      cases H
set_option maxRecDepth 20000 in
theorem zt_Machine_isGone_20 {a b L : Nat} {σ : zS} {τ : zT} {o0 : Option Value} {o1 : Option Value} {o2 : Option Value} {r : Int32} (H : zb_Machine_isGone_20 σ = some r) : zx_go 1 163 20 [o0, o1, o2] [] ((119, a, b), zx_pk (zK L) 119, σ, τ, zR) = some (some (.int r), ((119, a, b), zx_pk (zK L) 119, σ, τ, zR)) := by
  unfold zb_Machine_isGone_20 at H
  rw [zs_iconst (z := 1) zd_163_20 (by decide)]
  rw [zs_goto (t := 25) zd_163_21 rfl]
  have H := Option.some.inj H
  subst H
  exact zs_ireturn zd_163_25 (by decide +kernel)
set_option maxRecDepth 20000 in
theorem zt_Machine_isGone {a b L : Nat} {σ : zS} {τ : zT} {x1 : Int32} {r : Int32} (H : zf_Machine_isGone σ x1 = some r) : zx_go 1 163 0 [some (.ref 35), some (.int x1), none] [] ((119, a, b), zx_pk (zK L) 119, σ, τ, zR) = some (some (.int r), ((119, a, b), zx_pk (zK L) 119, σ, τ, zR)) := by
  unfold zf_Machine_isGone at H
  rw [zs_aload_n (ls := [some (.ref 35), some (.int x1), none]) zd_163_0 rfl]
  rw [zs_iload_n (ls := [some (.ref 35), some (.int x1), none]) zd_163_1 rfl]
  obtain ⟨r1, hr1, H⟩ := Option.bind_eq_some_iff.mp H
  rw [zp_callVi (x := r1) (st := [.int x1, .ref 35]) (as := [.ref 35, .int x1]) (rest := []) (e := 0) zd_163_2 rfl (by decide +kernel) (by decide) rfl rfl (Nat.le_of_ble_eq_true rfl) (zx_rcb_ok rfl (show 35 < 119 by decide)) (Nat.le_of_ble_eq_true rfl) rfl (by decide) (zt_Machine_howOf hr1)]
  rw [zs_istore_n (x := r1) (ls' := [some (.ref 35), some (.int x1), some (.int r1)]) zd_163_5 (Nat.le_of_ble_eq_true rfl) rfl]
  rw [zs_iload_n (ls := [some (.ref 35), some (.int x1), some (.int r1)]) zd_163_6 rfl]
  rw [zs_iconst (z := 4) zd_163_7 (by decide)]
  by_cases c2 : r1 = 4
  · rw [if_pos c2] at H
    rw [zp_icmp_eq_t (x := r1) (y := 4) (t := 20) zd_163_8 rfl c2]
    exact zt_Machine_isGone_20  H
  · rw [if_neg c2] at H
    rw [zp_icmp_eq_f (x := r1) (y := 4) (t := 20) zd_163_8 rfl c2]
    rw [zs_iload_n (ls := [some (.ref 35), some (.int x1), some (.int r1)]) zd_163_11 rfl]
    rw [zs_iconst (z := 5) zd_163_12 (by decide)]
    by_cases c3 : r1 = 5
    · rw [if_pos c3] at H
      rw [zp_icmp_eq_t (x := r1) (y := 5) (t := 20) zd_163_13 rfl c3]
      exact zt_Machine_isGone_20  H
    · rw [if_neg c3] at H
      rw [zp_icmp_eq_f (x := r1) (y := 5) (t := 20) zd_163_13 rfl c3]
      rw [zs_iload_n (ls := [some (.ref 35), some (.int x1), some (.int r1)]) zd_163_16 rfl]
      by_cases c4 : ¬ r1 = 0
      · rw [if_pos c4] at H
        rw [zp_if_ne_t (x := r1) (t := 24) zd_163_17 rfl c4]
        rw [zs_iconst (z := 0) zd_163_24 (by decide)]
        have H := Option.some.inj H
        subst H
        exact zs_ireturn zd_163_25 (by decide +kernel)
      · rw [if_neg c4] at H
        rw [zp_if_ne_f (x := r1) (t := 24) zd_163_17 rfl c4]
        exact zt_Machine_isGone_20  H
set_option maxRecDepth 20000 in
theorem zt_Machine_isOver_2 {a b L N : Nat} : ∀ {n : Nat} {σ : zS} {τ : zT} {v1 : Int32} {r : Int32}, zb_Machine_isOver_2 N n σ v1 = some r → zx_go 2 162 2 [some (.ref 35), some (.int v1)] [] ((119, a, b), zx_pk (zK L) 119, σ, τ, zR) = some (some (.int r), ((119, a, b), zx_pk (zK L) 119, σ, τ, zR)) := by
  intro n
  induction n with
  | zero =>
    intro _ _ _ _ H
    cases H
  | succ n ih =>
    intro σ τ v1 r H
    rw [zb_Machine_isOver_2] at H
    rw [zs_iload_n (ls := [some (.ref 35), some (.int v1)]) zd_162_2 rfl]
    rw [zs_aload_n (ls := [some (.ref 35), some (.int v1)]) zd_162_3 rfl]
    rw [zs_getR (n := 119) (K := zx_pk (zK L) 119) (ρ := zR) (c := 2) (k := 0) (q := 35) (p := 4) zd_162_4 rfl rfl rfl (by decide) rfl]
    rw [zp_getI (n := 119) (K := zx_pk (zK L) 119) (σ := σ) (c := 6) (k := 2) (q := 4) (v := (σ 4 2)) zd_162_7 rfl rfl rfl (by decide) rfl]
    by_cases c1 : (σ 4 2) ≤ v1
    · rw [if_pos c1] at H
      rw [zp_icmp_ge_t (x := v1) (y := (σ 4 2)) (t := 29) zd_162_10 rfl c1]
      rw [zs_iconst (z := 1) zd_162_29 (by decide)]
      have H := Option.some.inj H
      subst H
      exact zs_ireturn zd_162_30 (by decide +kernel)
    · rw [if_neg c1] at H
      rw [zp_icmp_ge_f (x := v1) (y := (σ 4 2)) (t := 29) zd_162_10 rfl c1]
      rw [zs_aload_n (ls := [some (.ref 35), some (.int v1)]) zd_162_13 rfl]
      rw [zs_iload_n (ls := [some (.ref 35), some (.int v1)]) zd_162_14 rfl]
      obtain ⟨r2, hr2, H⟩ := Option.bind_eq_some_iff.mp H
      rw [zp_callVi (x := r2) (st := [.int v1, .ref 35]) (as := [.ref 35, .int v1]) (rest := []) (e := 1) zd_162_15 rfl (by decide +kernel) (by decide) rfl rfl (Nat.le_of_ble_eq_true rfl) (zx_rcb_ok rfl (show 35 < 119 by decide)) (Nat.le_of_ble_eq_true rfl) rfl (by decide) (zt_Machine_isGone hr2)]
      by_cases c3 : ¬ r2 = 0
      · rw [if_pos c3] at H
        rw [zp_if_ne_t (x := r2) (t := 23) zd_162_18 rfl c3]
        rw [zs_iinc (ls := [some (.ref 35), some (.int v1)]) (x := v1) (z := (v1 + 1)) (ls' := [some (.ref 35), some (.int (v1 + 1))]) zd_162_23 rfl rfl rfl]
        rw [zs_goto (t := 2) zd_162_26 rfl]
        exact ih H
      · rw [if_neg c3] at H
        rw [zp_if_ne_f (x := r2) (t := 23) zd_162_18 rfl c3]
        rw [zs_iconst (z := 0) zd_162_21 (by decide)]
        have H := Option.some.inj H
        subst H
        exact zs_ireturn zd_162_22 (by decide +kernel)
set_option maxRecDepth 20000 in
theorem zt_Machine_isOver {a b L N : Nat} {σ : zS} {τ : zT} {r : Int32} (H : zf_Machine_isOver N σ = some r) : zx_go 2 162 0 [some (.ref 35), none] [] ((119, a, b), zx_pk (zK L) 119, σ, τ, zR) = some (some (.int r), ((119, a, b), zx_pk (zK L) 119, σ, τ, zR)) := by
  unfold zf_Machine_isOver at H
  rw [zs_iconst (z := 0) zd_162_0 (by decide)]
  rw [zs_istore_n (x := 0) (ls' := [some (.ref 35), some (.int 0)]) zd_162_1 (Nat.le_of_ble_eq_true rfl) rfl]
  exact zt_Machine_isOver_2  H
set_option maxRecDepth 20000 in
theorem zt_Machine_failed_30 {a b L N : Nat} {k4 : zS → Int32 → Int32 → Option (Int32)} (hk4 : ∀ {σ : zS} {τ : zT} {v1 : Int32} {v2 : Int32} {r : Int32}, k4 σ v1 v2 = some r → zx_go 1 159 4 [some (.ref 35), some (.int v1), some (.int v2)] [] ((119, a, b), zx_pk (zK L) 119, σ, τ, zR) = some (some (.int r), ((119, a, b), zx_pk (zK L) 119, σ, τ, zR))) {σ : zS} {τ : zT} {v1 : Int32} {v2 : Int32} {r : Int32} (H : zb_Machine_failed_30 k4 N σ v1 v2 = some r) : zx_go 1 159 30 [some (.ref 35), some (.int v1), some (.int v2)] [] ((119, a, b), zx_pk (zK L) 119, σ, τ, zR) = some (some (.int r), ((119, a, b), zx_pk (zK L) 119, σ, τ, zR)) := by
  unfold zb_Machine_failed_30 at H
  rw [zs_iinc (ls := [some (.ref 35), some (.int v1), some (.int v2)]) (x := v2) (z := (v2 + 1)) (ls' := [some (.ref 35), some (.int v1), some (.int (v2 + 1))]) zd_159_30 rfl rfl rfl]
  rw [zs_goto (t := 4) zd_159_33 rfl]
  exact hk4 H
set_option maxRecDepth 20000 in
theorem zt_Machine_failed_4 {a b L N : Nat} : ∀ {n : Nat} {σ : zS} {τ : zT} {v1 : Int32} {v2 : Int32} {r : Int32}, zb_Machine_failed_4 N n σ v1 v2 = some r → zx_go 1 159 4 [some (.ref 35), some (.int v1), some (.int v2)] [] ((119, a, b), zx_pk (zK L) 119, σ, τ, zR) = some (some (.int r), ((119, a, b), zx_pk (zK L) 119, σ, τ, zR)) := by
  intro n
  induction n with
  | zero =>
    intro _ _ _ _ _ H
    cases H
  | succ n ih =>
    intro σ τ v1 v2 r H
    rw [zb_Machine_failed_4] at H
    rw [zs_iload_n (ls := [some (.ref 35), some (.int v1), some (.int v2)]) zd_159_4 rfl]
    rw [zs_aload_n (ls := [some (.ref 35), some (.int v1), some (.int v2)]) zd_159_5 rfl]
    rw [zs_getR (n := 119) (K := zx_pk (zK L) 119) (ρ := zR) (c := 2) (k := 0) (q := 35) (p := 4) zd_159_6 rfl rfl rfl (by decide) rfl]
    rw [zp_getI (n := 119) (K := zx_pk (zK L) 119) (σ := σ) (c := 6) (k := 2) (q := 4) (v := (σ 4 2)) zd_159_9 rfl rfl rfl (by decide) rfl]
    by_cases c1 : (σ 4 2) ≤ v2
    · rw [if_pos c1] at H
      rw [zp_icmp_ge_t (x := v2) (y := (σ 4 2)) (t := 36) zd_159_12 rfl c1]
      rw [zs_iload_n (ls := [some (.ref 35), some (.int v1), some (.int v2)]) zd_159_36 rfl]
      have H := Option.some.inj H
      subst H
      exact zs_ireturn zd_159_37 rfl
    · rw [if_neg c1] at H
      rw [zp_icmp_ge_f (x := v2) (y := (σ 4 2)) (t := 36) zd_159_12 rfl c1]
      rw [zs_aload_n (ls := [some (.ref 35), some (.int v1), some (.int v2)]) zd_159_15 rfl]
      rw [zs_iload_n (ls := [some (.ref 35), some (.int v1), some (.int v2)]) zd_159_16 rfl]
      obtain ⟨r2, hr2, H⟩ := Option.bind_eq_some_iff.mp H
      rw [zp_callVi (x := r2) (st := [.int v2, .ref 35]) (as := [.ref 35, .int v2]) (rest := []) (e := 0) zd_159_17 rfl (by decide +kernel) (by decide) rfl rfl (Nat.le_of_ble_eq_true rfl) (zx_rcb_ok rfl (show 35 < 119 by decide)) (Nat.le_of_ble_eq_true rfl) rfl (by decide) (zt_Machine_howOf hr2)]
      rw [zs_iconst (z := 5) zd_159_20 (by decide)]
      by_cases c3 : ¬ r2 = 5
      · rw [if_pos c3] at H
        rw [zp_icmp_ne_t (x := r2) (y := 5) (t := 30) zd_159_21 rfl c3]
        exact zt_Machine_failed_30 (hk4 := ih) H
      · rw [if_neg c3] at H
        rw [zp_icmp_ne_f (x := r2) (y := 5) (t := 30) zd_159_21 rfl c3]
        rw [zs_iload_n (ls := [some (.ref 35), some (.int v1), some (.int v2)]) zd_159_24 rfl]
        rw [zs_iconst (z := 1) zd_159_25 (by decide)]
        rw [zs_iload_n (ls := [some (.ref 35), some (.int v1), some (.int v2)]) zd_159_26 rfl]
        rw [zp_ishl (x := 1) (y := v2) (z := (zJ_shl 1 v2)) zd_159_27 rfl]
        rw [zp_ior (x := v1) (y := (zJ_shl 1 v2)) (z := (v1 ||| (zJ_shl 1 v2))) zd_159_28 rfl]
        rw [zs_istore_n (x := (v1 ||| (zJ_shl 1 v2))) (ls' := [some (.ref 35), some (.int (v1 ||| (zJ_shl 1 v2))), some (.int v2)]) zd_159_29 (Nat.le_of_ble_eq_true rfl) rfl]
        exact zt_Machine_failed_30 (hk4 := ih) H
set_option maxRecDepth 20000 in
theorem zt_Machine_failed {a b L N : Nat} {σ : zS} {τ : zT} {r : Int32} (H : zf_Machine_failed N σ = some r) : zx_go 1 159 0 [some (.ref 35), none, none] [] ((119, a, b), zx_pk (zK L) 119, σ, τ, zR) = some (some (.int r), ((119, a, b), zx_pk (zK L) 119, σ, τ, zR)) := by
  unfold zf_Machine_failed at H
  rw [zs_iconst (z := 0) zd_159_0 (by decide)]
  rw [zs_istore_n (x := 0) (ls' := [some (.ref 35), some (.int 0), none]) zd_159_1 (Nat.le_of_ble_eq_true rfl) rfl]
  rw [zs_iconst (z := 0) zd_159_2 (by decide)]
  rw [zs_istore_n (x := 0) (ls' := [some (.ref 35), some (.int 0), some (.int 0)]) zd_159_3 (Nat.le_of_ble_eq_true rfl) rfl]
  exact zt_Machine_failed_4  H
set_option maxRecDepth 20000 in
theorem zt_Machine_outcome_12 {a b L N : Nat} {σ : zS} {τ : zT} {s0 : Int32} {o1 : Option Value} {r : Int32} (H : zb_Machine_outcome_12 N σ s0 = some r) : zx_go 3 169 12 [some (.ref 35), o1] [.int s0] ((119, a, b), zx_pk (zK L) 119, σ, τ, zR) = some (some (.int r), ((119, a, b), zx_pk (zK L) 119, σ, τ, zR)) := by
  unfold zb_Machine_outcome_12 at H
  rw [zs_istore_n (x := s0) (ls' := [some (.ref 35), some (.int s0)]) zd_169_12 (Nat.le_of_ble_eq_true rfl) rfl]
  rw [zs_aload_n (ls := [some (.ref 35), some (.int s0)]) zd_169_13 rfl]
  rw [zs_getR (n := 119) (K := zx_pk (zK L) 119) (ρ := zR) (c := 2) (k := 4) (q := 35) (p := 39) zd_169_14 rfl rfl rfl (by decide) rfl]
  rw [zs_iconst (z := 0) zd_169_17 (by decide)]
  rw [zp_iaload (n := 119) (K := zx_pk (zK L) 119) (σ := σ) (q := 39) (m := 5) (i := 0) (k := 0) (v := (σ 39 0)) zd_169_18 rfl (by decide) (by decide) (by decide) rfl]
  rw [zs_aload_n (ls := [some (.ref 35), some (.int s0)]) zd_169_19 rfl]
  obtain ⟨r3, hr3, H⟩ := Option.bind_eq_some_iff.mp H
  rw [zp_callVi (x := r3) (st := [.ref 35, .int (σ 39 0)]) (as := [.ref 35]) (rest := [.int (σ 39 0)]) (e := 1) zd_169_20 rfl (by decide +kernel) (by decide) rfl rfl (Nat.le_of_ble_eq_true rfl) (zx_rcb_ok rfl (show 35 < 119 by decide)) (Nat.le_of_ble_eq_true rfl) rfl (by decide) (zt_Machine_failed hr3)]
  rw [zs_bipush (z := 18) zd_169_23 (by decide)]
  rw [zp_ishl (x := r3) (y := 18) (z := (zJ_shl r3 18)) zd_169_25 rfl]
  rw [zp_ior (x := (σ 39 0)) (y := (zJ_shl r3 18)) (z := ((σ 39 0) ||| (zJ_shl r3 18))) zd_169_26 rfl]
  rw [zs_iload_n (ls := [some (.ref 35), some (.int s0)]) zd_169_27 rfl]
  rw [zs_bipush (z := 22) zd_169_28 (by decide)]
  rw [zp_ishl (x := s0) (y := 22) (z := (zJ_shl s0 22)) zd_169_30 rfl]
  rw [zp_ior (x := ((σ 39 0) ||| (zJ_shl r3 18))) (y := (zJ_shl s0 22)) (z := (((σ 39 0) ||| (zJ_shl r3 18)) ||| (zJ_shl s0 22))) zd_169_31 rfl]
  have H := Option.some.inj H
  subst H
  exact zs_ireturn zd_169_32 rfl
set_option maxRecDepth 20000 in
theorem zt_Machine_outcome {a b L N : Nat} {σ : zS} {τ : zT} {r : Int32} (H : zf_Machine_outcome N σ = some r) : zx_go 3 169 0 [some (.ref 35), none] [] ((119, a, b), zx_pk (zK L) 119, σ, τ, zR) = some (some (.int r), ((119, a, b), zx_pk (zK L) 119, σ, τ, zR)) := by
  unfold zf_Machine_outcome at H
  rw [zs_aload_n (ls := [some (.ref 35), none]) zd_169_0 rfl]
  obtain ⟨r1, hr1, H⟩ := Option.bind_eq_some_iff.mp H
  rw [zp_callVi (x := r1) (st := [.ref 35]) (as := [.ref 35]) (rest := []) (e := 2) zd_169_1 rfl (by decide +kernel) (by decide) rfl rfl (Nat.le_of_ble_eq_true rfl) (zx_rcb_ok rfl (show 35 < 119 by decide)) (Nat.le_of_ble_eq_true rfl) rfl (by decide) (zt_Machine_isOver hr1)]
  by_cases c2 : r1 = 0
  · rw [if_pos c2] at H
    rw [zp_if_eq_t (x := r1) (t := 11) zd_169_4 rfl c2]
    rw [zs_iconst (z := 1) zd_169_11 (by decide)]
    exact zt_Machine_outcome_12  H
  · rw [if_neg c2] at H
    rw [zp_if_eq_f (x := r1) (t := 11) zd_169_4 rfl c2]
    rw [zs_iconst (z := 0) zd_169_7 (by decide)]
    rw [zs_goto (t := 12) zd_169_8 rfl]
    exact zt_Machine_outcome_12  H
set_option maxRecDepth 20000 in
theorem zt_Numbers_get_21 {a b L : Nat} {σ : zS} {τ : zT} {o0 : Option Value} {o1 : Option Value} {r : Int32} (H : zb_Numbers_get_21 σ = some r) : zx_go 0 172 21 [o0, o1] [] ((119, a, b), zx_pk (zK L) 119, σ, τ, zR) = some (some (.int r), ((119, a, b), zx_pk (zK L) 119, σ, τ, zR)) := by
  unfold zb_Numbers_get_21 at H
  rw [zs_iconst (z := (-1)) zd_172_21 (by decide)]
  rw [zs_goto (t := 31) zd_172_22 rfl]
  have H := Option.some.inj H
  subst H
  exact zs_ireturn zd_172_31 (by decide +kernel)
set_option maxRecDepth 20000 in
theorem zt_Numbers_get {a b L : Nat} {σ : zS} {τ : zT} {x1 : Int32} {r : Int32} (H : zf_Numbers_get σ x1 = some r) : zx_go 0 172 0 [some (.ref 59), some (.int x1)] [] ((119, a, b), zx_pk (zK L) 119, σ, τ, zR) = some (some (.int r), ((119, a, b), zx_pk (zK L) 119, σ, τ, zR)) := by
  unfold zf_Numbers_get at H
  rw [zs_iload_n (ls := [some (.ref 59), some (.int x1)]) zd_172_0 rfl]
  by_cases c1 : x1 < 0
  · rw [if_pos c1] at H
    rw [zp_if_lt_t (x := x1) (t := 21) zd_172_1 rfl c1]
    exact zt_Numbers_get_21  H
  · rw [if_neg c1] at H
    rw [zp_if_lt_f (x := x1) (t := 21) zd_172_1 rfl c1]
    rw [zs_iload_n (ls := [some (.ref 59), some (.int x1)]) zd_172_4 rfl]
    rw [zs_aload_n (ls := [some (.ref 59), some (.int x1)]) zd_172_5 rfl]
    rw [zp_getI (n := 119) (K := zx_pk (zK L) 119) (σ := σ) (c := 4) (k := 1) (q := 59) (v := (σ 59 1)) zd_172_6 rfl rfl rfl (by decide) rfl]
    by_cases c2 : (σ 59 1) ≤ x1
    · rw [if_pos c2] at H
      rw [zp_icmp_ge_t (x := x1) (y := (σ 59 1)) (t := 21) zd_172_9 rfl c2]
      exact zt_Numbers_get_21  H
    · rw [if_neg c2] at H
      rw [zp_icmp_ge_f (x := x1) (y := (σ 59 1)) (t := 21) zd_172_9 rfl c2]
      rw [zs_iload_n (ls := [some (.ref 59), some (.int x1)]) zd_172_12 rfl]
      rw [zs_aload_n (ls := [some (.ref 59), some (.int x1)]) zd_172_13 rfl]
      rw [zs_getR (n := 119) (K := zx_pk (zK L) 119) (ρ := zR) (c := 4) (k := 0) (q := 59) (p := 60) zd_172_14 rfl rfl rfl (by decide) rfl]
      rw [zs_arraylength (n := 119) (K := zx_pk (zK L) 119) (q := 60) (m := 4000) (z := 4000) zd_172_17 rfl (by decide) (by decide)]
      by_cases c3 : x1 < 4000
      · rw [if_pos c3] at H
        rw [zp_icmp_lt_t (x := x1) (y := 4000) (t := 25) zd_172_18 rfl c3]
        rw [zs_aload_n (ls := [some (.ref 59), some (.int x1)]) zd_172_25 rfl]
        rw [zs_getR (n := 119) (K := zx_pk (zK L) 119) (ρ := zR) (c := 4) (k := 0) (q := 59) (p := 60) zd_172_26 rfl rfl rfl (by decide) rfl]
        rw [zs_iload_n (ls := [some (.ref 59), some (.int x1)]) zd_172_29 rfl]
        by_cases c4 : 0 ≤ x1 ∧ x1 < 4000
        · rw [if_pos c4] at H
          rw [zp_iaload (n := 119) (K := zx_pk (zK L) 119) (σ := σ) (q := 60) (m := 4000) (i := x1) (k := x1.toNatClampNeg) (v := (σ 60 x1.toNatClampNeg)) zd_172_30 rfl (by decide) (zJ_in c4 rfl) rfl rfl]
          have H := Option.some.inj H
          subst H
          exact zs_ireturn zd_172_31 rfl
        · rw [if_neg c4] at H
          cases H
      · rw [if_neg c3] at H
        rw [zp_icmp_lt_f (x := x1) (y := 4000) (t := 25) zd_172_18 rfl c3]
        exact zt_Numbers_get_21  H
set_option maxRecDepth 20000 in
theorem zt_Outcomes_slotOf_19 {a b L N : Nat} : ∀ {n : Nat} {σ : zS} {τ : zT} {v1 : Int32} {v3 : Int32} {v4 : Int32} {o2 : Option Value} {r : Int32}, zb_Outcomes_slotOf_19 N n σ v1 v3 v4 = some r → zx_go 1 171 19 [some (.ref 58), some (.int v1), o2, some (.int v3), some (.int v4)] [] ((119, a, b), zx_pk (zK L) 119, σ, τ, zR) = some (some (.int r), ((119, a, b), zx_pk (zK L) 119, σ, τ, zR)) := by
  intro n
  induction n with
  | zero =>
    intro _ _ _ _ _ _ _ H
    cases H
  | succ n ih =>
    intro σ τ v1 v3 v4 o2 r H
    rw [zb_Outcomes_slotOf_19] at H
    rw [zs_iload (ls := [some (.ref 58), some (.int v1), o2, some (.int v3), some (.int v4)]) zd_171_19 rfl]
    rw [zs_sipush (z := 8192) zd_171_21 (by decide)]
    by_cases c1 : 8192 ≤ v4
    · rw [if_pos c1] at H
      rw [zp_icmp_ge_t (x := v4) (y := 8192) (t := 71) zd_171_24 rfl c1]
      rw [zs_iload_n (ls := [some (.ref 58), some (.int v1), o2, some (.int v3), some (.int v4)]) zd_171_71 rfl]
      have H := Option.some.inj H
      subst H
      exact zs_ireturn zd_171_72 rfl
    · rw [if_neg c1] at H
      rw [zp_icmp_ge_f (x := v4) (y := 8192) (t := 71) zd_171_24 rfl c1]
      rw [zs_aload_n (ls := [some (.ref 58), some (.int v1), o2, some (.int v3), some (.int v4)]) zd_171_27 rfl]
      rw [zs_getR (n := 119) (K := zx_pk (zK L) 119) (ρ := zR) (c := 5) (k := 3) (q := 58) (p := 63) zd_171_28 rfl rfl rfl (by decide) rfl]
      rw [zs_iload_n (ls := [some (.ref 58), some (.int v1), o2, some (.int v3), some (.int v4)]) zd_171_31 rfl]
      by_cases c2 : 0 ≤ v3 ∧ v3 < 8192
      · rw [if_pos c2] at H
        rw [zp_iaload (n := 119) (K := zx_pk (zK L) 119) (σ := σ) (q := 63) (m := 8192) (i := v3) (k := v3.toNatClampNeg) (v := (σ 63 v3.toNatClampNeg)) zd_171_32 rfl (by decide) (zJ_in c2 rfl) rfl rfl]
        by_cases c3 : (σ 63 v3.toNatClampNeg) = 0
        · rw [if_pos c3] at H
          rw [zp_if_eq_t (x := (σ 63 v3.toNatClampNeg)) (t := 71) zd_171_33 rfl c3]
          rw [zs_iload_n (ls := [some (.ref 58), some (.int v1), o2, some (.int v3), some (.int v4)]) zd_171_71 rfl]
          have H := Option.some.inj H
          subst H
          exact zs_ireturn zd_171_72 rfl
        · rw [if_neg c3] at H
          rw [zp_if_eq_f (x := (σ 63 v3.toNatClampNeg)) (t := 71) zd_171_33 rfl c3]
          rw [zs_aload_n (ls := [some (.ref 58), some (.int v1), o2, some (.int v3), some (.int v4)]) zd_171_36 rfl]
          rw [zs_getR (n := 119) (K := zx_pk (zK L) 119) (ρ := zR) (c := 5) (k := 1) (q := 58) (p := 59) zd_171_37 rfl rfl rfl (by decide) rfl]
          rw [zs_aload_n (ls := [some (.ref 58), some (.int v1), o2, some (.int v3), some (.int v4)]) zd_171_40 rfl]
          rw [zs_getR (n := 119) (K := zx_pk (zK L) 119) (ρ := zR) (c := 5) (k := 3) (q := 58) (p := 63) zd_171_41 rfl rfl rfl (by decide) rfl]
          rw [zs_iload_n (ls := [some (.ref 58), some (.int v1), o2, some (.int v3), some (.int v4)]) zd_171_44 rfl]
          by_cases c4 : 0 ≤ v3 ∧ v3 < 8192
          · rw [if_pos c4] at H
            rw [zp_iaload (n := 119) (K := zx_pk (zK L) 119) (σ := σ) (q := 63) (m := 8192) (i := v3) (k := v3.toNatClampNeg) (v := (σ 63 v3.toNatClampNeg)) zd_171_45 rfl (by decide) (zJ_in c4 rfl) rfl rfl]
            rw [zs_iconst (z := 1) zd_171_46 (by decide)]
            rw [zp_isub (x := (σ 63 v3.toNatClampNeg)) (y := 1) (z := ((σ 63 v3.toNatClampNeg) - 1)) zd_171_47 rfl]
            obtain ⟨r5, hr5, H⟩ := Option.bind_eq_some_iff.mp H
            rw [zp_callVi (x := r5) (st := [.int ((σ 63 v3.toNatClampNeg) - 1), .ref 59]) (as := [.ref 59, .int ((σ 63 v3.toNatClampNeg) - 1)]) (rest := []) (e := 0) zd_171_48 rfl (by decide +kernel) (by decide) rfl rfl (Nat.le_of_ble_eq_true rfl) (zx_rcb_ok rfl (show 59 < 119 by decide)) (Nat.le_of_ble_eq_true rfl) rfl (by decide) (zt_Numbers_get hr5)]
            rw [zs_iload_n (ls := [some (.ref 58), some (.int v1), o2, some (.int v3), some (.int v4)]) zd_171_51 rfl]
            by_cases c6 : ¬ r5 = v1
            · rw [if_pos c6] at H
              rw [zp_icmp_ne_t (x := r5) (y := v1) (t := 57) zd_171_52 rfl c6]
              rw [zs_iload_n (ls := [some (.ref 58), some (.int v1), o2, some (.int v3), some (.int v4)]) zd_171_57 rfl]
              rw [zs_iconst (z := 1) zd_171_58 (by decide)]
              rw [zp_iadd (x := v3) (y := 1) (z := (v3 + 1)) zd_171_59 rfl]
              rw [zs_sipush (z := 8191) zd_171_60 (by decide)]
              rw [zp_iand (x := (v3 + 1)) (y := 8191) (z := ((v3 + 1) &&& 8191)) zd_171_63 rfl]
              rw [zs_istore_n (x := ((v3 + 1) &&& 8191)) (ls' := [some (.ref 58), some (.int v1), (zJ_cl o2), some (.int ((v3 + 1) &&& 8191)), some (.int v4)]) zd_171_64 (Nat.le_of_ble_eq_true rfl) (zJ_s1 (k := 2) (o := o2) rfl)]
              rw [zs_iinc (ls := [some (.ref 58), some (.int v1), (zJ_cl o2), some (.int ((v3 + 1) &&& 8191)), some (.int v4)]) (x := v4) (z := (v4 + 1)) (ls' := [some (.ref 58), some (.int v1), (zJ_cl o2), some (.int ((v3 + 1) &&& 8191)), some (.int (v4 + 1))]) zd_171_65 rfl rfl rfl]
              rw [zs_goto (t := 19) zd_171_68 rfl]
              exact ih H
            · rw [if_neg c6] at H
              rw [zp_icmp_ne_f (x := r5) (y := v1) (t := 57) zd_171_52 rfl c6]
              rw [zs_iload_n (ls := [some (.ref 58), some (.int v1), o2, some (.int v3), some (.int v4)]) zd_171_55 rfl]
              have H := Option.some.inj H
              subst H
              exact zs_ireturn zd_171_56 rfl
          · rw [if_neg c4] at H
            cases H
      · rw [if_neg c2] at H
        cases H
set_option maxRecDepth 20000 in
theorem zt_Outcomes_slotOf {a b L N : Nat} {σ : zS} {τ : zT} {x1 : Int32} {r : Int32} (H : zf_Outcomes_slotOf N σ x1 = some r) : zx_go 1 171 0 [some (.ref 58), some (.int x1), none, none, none] [] ((119, a, b), zx_pk (zK L) 119, σ, τ, zR) = some (some (.int r), ((119, a, b), zx_pk (zK L) 119, σ, τ, zR)) := by
  unfold zf_Outcomes_slotOf at H
  rw [zs_iload_n (ls := [some (.ref 58), some (.int x1), none, none, none]) zd_171_0 rfl]
  rw [zs_ldc (x := (-1640531535)) zd_171_1 rfl]
  rw [zp_imul (x := x1) (y := (-1640531535)) (z := (x1 * (-1640531535))) zd_171_3 rfl]
  rw [zs_istore_n (x := (x1 * (-1640531535))) (ls' := [some (.ref 58), some (.int x1), some (.int (x1 * (-1640531535))), none, none]) zd_171_4 (Nat.le_of_ble_eq_true rfl) rfl]
  rw [zs_iload_n (ls := [some (.ref 58), some (.int x1), some (.int (x1 * (-1640531535))), none, none]) zd_171_5 rfl]
  rw [zs_iload_n (ls := [some (.ref 58), some (.int x1), some (.int (x1 * (-1640531535))), none, none]) zd_171_6 rfl]
  rw [zs_bipush (z := 15) zd_171_7 (by decide)]
  rw [zp_iushr (x := (x1 * (-1640531535))) (y := 15) (z := (zJ_ushr (x1 * (-1640531535)) 15)) zd_171_9 rfl]
  rw [zp_ixor (x := (x1 * (-1640531535))) (y := (zJ_ushr (x1 * (-1640531535)) 15)) (z := ((x1 * (-1640531535)) ^^^ (zJ_ushr (x1 * (-1640531535)) 15))) zd_171_10 rfl]
  rw [zs_sipush (z := 8191) zd_171_11 (by decide)]
  rw [zp_iand (x := ((x1 * (-1640531535)) ^^^ (zJ_ushr (x1 * (-1640531535)) 15))) (y := 8191) (z := (((x1 * (-1640531535)) ^^^ (zJ_ushr (x1 * (-1640531535)) 15)) &&& 8191)) zd_171_14 rfl]
  rw [zs_istore_n (x := (((x1 * (-1640531535)) ^^^ (zJ_ushr (x1 * (-1640531535)) 15)) &&& 8191)) (ls' := [some (.ref 58), some (.int x1), some (.int (x1 * (-1640531535))), some (.int (((x1 * (-1640531535)) ^^^ (zJ_ushr (x1 * (-1640531535)) 15)) &&& 8191)), none]) zd_171_15 (Nat.le_of_ble_eq_true rfl) rfl]
  rw [zs_iconst (z := 0) zd_171_16 (by decide)]
  rw [zs_istore (x := 0) (ls' := [some (.ref 58), some (.int x1), some (.int (x1 * (-1640531535))), some (.int (((x1 * (-1640531535)) ^^^ (zJ_ushr (x1 * (-1640531535)) 15)) &&& 8191)), some (.int 0)]) zd_171_17 (Nat.le_of_ble_eq_true rfl) rfl]
  exact zt_Outcomes_slotOf_19  H
set_option maxRecDepth 20000 in
theorem zt_Numbers_add_c2 {a b L : Nat} {σ : zS} {τ : zT} {x1 : Int32} {r : zS} (H : zf_Numbers_add_c2 σ x1 = some r) : zx_go 0 160 0 [some (.ref 59), some (.int x1)] [] ((119, a, b), zx_pk (zK L) 119, σ, τ, zR) = some (none, ((119, a, b), zx_pk (zK L) 119, r, τ, zR)) := by
  unfold zf_Numbers_add_c2 at H
  rw [zs_aload_n (ls := [some (.ref 59), some (.int x1)]) zd_160_0 rfl]
  rw [zp_getI (n := 119) (K := zx_pk (zK L) 119) (σ := σ) (c := 4) (k := 1) (q := 59) (v := (σ 59 1)) zd_160_1 rfl rfl rfl (by decide) rfl]
  by_cases c1 : (σ 59 1) < 0
  · rw [if_pos c1] at H
    rw [zp_if_lt_t (x := (σ 59 1)) (t := 39) zd_160_4 rfl c1]
    have H := Option.some.inj H
    subst H
    exact zs_return zd_160_39 (by decide +kernel)
  · rw [if_neg c1] at H
    rw [zp_if_lt_f (x := (σ 59 1)) (t := 39) zd_160_4 rfl c1]
    rw [zs_aload_n (ls := [some (.ref 59), some (.int x1)]) zd_160_7 rfl]
    rw [zp_getI (n := 119) (K := zx_pk (zK L) 119) (σ := σ) (c := 4) (k := 1) (q := 59) (v := (σ 59 1)) zd_160_8 rfl rfl rfl (by decide) rfl]
    rw [zs_aload_n (ls := [some (.ref 59), some (.int x1)]) zd_160_11 rfl]
    rw [zs_getR (n := 119) (K := zx_pk (zK L) 119) (ρ := zR) (c := 4) (k := 0) (q := 59) (p := 60) zd_160_12 rfl rfl rfl (by decide) rfl]
    rw [zs_arraylength (n := 119) (K := zx_pk (zK L) 119) (q := 60) (m := 4000) (z := 4000) zd_160_15 rfl (by decide) (by decide)]
    by_cases c2 : 4000 ≤ (σ 59 1)
    · rw [if_pos c2] at H
      rw [zp_icmp_ge_t (x := (σ 59 1)) (y := 4000) (t := 39) zd_160_16 rfl c2]
      have H := Option.some.inj H
      subst H
      exact zs_return zd_160_39 (by decide +kernel)
    · rw [if_neg c2] at H
      rw [zp_icmp_ge_f (x := (σ 59 1)) (y := 4000) (t := 39) zd_160_16 rfl c2]
      rw [zs_aload_n (ls := [some (.ref 59), some (.int x1)]) zd_160_19 rfl]
      rw [zs_getR (n := 119) (K := zx_pk (zK L) 119) (ρ := zR) (c := 4) (k := 0) (q := 59) (p := 60) zd_160_20 rfl rfl rfl (by decide) rfl]
      rw [zs_aload_n (ls := [some (.ref 59), some (.int x1)]) zd_160_23 rfl]
      rw [zp_getI (n := 119) (K := zx_pk (zK L) 119) (σ := σ) (c := 4) (k := 1) (q := 59) (v := (σ 59 1)) zd_160_24 rfl rfl rfl (by decide) rfl]
      rw [zs_iload_n (ls := [some (.ref 59), some (.int x1)]) zd_160_27 rfl]
      by_cases c3 : 0 ≤ (σ 59 1) ∧ (σ 59 1) < 4000
      · rw [if_pos c3] at H
        rw [zp_iastore (n := 119) (K := zx_pk (zK L) 119) (q := 60) (m := 4000) (i := (σ 59 1)) (k := (σ 59 1).toNatClampNeg) (x := x1) (z := x1) zd_160_28 rfl ⟨by decide, by decide⟩ (zJ_in c3 rfl) rfl rfl]
        rw [zs_aload_n (ls := [some (.ref 59), some (.int x1)]) zd_160_29 rfl]
        rw [zs_dup (a := .ref 59) zd_160_30 rfl]
        rw [zp_getI (n := 119) (K := zx_pk (zK L) 119) (σ := (zx_up σ 60 (σ 59 1).toNatClampNeg x1)) (c := 4) (k := 1) (q := 59) (v := (σ 59 1)) zd_160_31 rfl rfl rfl (by decide) (show ((zx_up σ 60 (σ 59 1).toNatClampNeg x1) : zS) 59 1 = (σ 59 1) from ((zx_up_ne (by decide)).trans rfl))]
        rw [zs_iconst (z := 1) zd_160_34 (by decide)]
        rw [zp_iadd (x := (σ 59 1)) (y := 1) (z := ((σ 59 1) + 1)) zd_160_35 rfl]
        rw [zs_putI (n := 119) (K := zx_pk (zK L) 119) (c := 4) (k := 1) (q := 59) (x := ((σ 59 1) + 1)) zd_160_36 rfl rfl (by decide +kernel) rfl (by decide)]
        have H := Option.some.inj H
        subst H
        exact zs_return zd_160_39 (by decide +kernel)
      · rw [if_neg c3] at H
        cases H
set_option maxRecDepth 20000 in
theorem zt_Numbers_add_c3 {a b L : Nat} {σ : zS} {τ : zT} {x1 : Int32} {r : zS} (H : zf_Numbers_add_c3 σ x1 = some r) : zx_go 0 160 0 [some (.ref 61), some (.int x1)] [] ((119, a, b), zx_pk (zK L) 119, σ, τ, zR) = some (none, ((119, a, b), zx_pk (zK L) 119, r, τ, zR)) := by
  unfold zf_Numbers_add_c3 at H
  rw [zs_aload_n (ls := [some (.ref 61), some (.int x1)]) zd_160_0 rfl]
  rw [zp_getI (n := 119) (K := zx_pk (zK L) 119) (σ := σ) (c := 4) (k := 1) (q := 61) (v := (σ 61 1)) zd_160_1 rfl rfl rfl (by decide) rfl]
  by_cases c1 : (σ 61 1) < 0
  · rw [if_pos c1] at H
    rw [zp_if_lt_t (x := (σ 61 1)) (t := 39) zd_160_4 rfl c1]
    have H := Option.some.inj H
    subst H
    exact zs_return zd_160_39 (by decide +kernel)
  · rw [if_neg c1] at H
    rw [zp_if_lt_f (x := (σ 61 1)) (t := 39) zd_160_4 rfl c1]
    rw [zs_aload_n (ls := [some (.ref 61), some (.int x1)]) zd_160_7 rfl]
    rw [zp_getI (n := 119) (K := zx_pk (zK L) 119) (σ := σ) (c := 4) (k := 1) (q := 61) (v := (σ 61 1)) zd_160_8 rfl rfl rfl (by decide) rfl]
    rw [zs_aload_n (ls := [some (.ref 61), some (.int x1)]) zd_160_11 rfl]
    rw [zs_getR (n := 119) (K := zx_pk (zK L) 119) (ρ := zR) (c := 4) (k := 0) (q := 61) (p := 62) zd_160_12 rfl rfl rfl (by decide) rfl]
    rw [zs_arraylength (n := 119) (K := zx_pk (zK L) 119) (q := 62) (m := 4000) (z := 4000) zd_160_15 rfl (by decide) (by decide)]
    by_cases c2 : 4000 ≤ (σ 61 1)
    · rw [if_pos c2] at H
      rw [zp_icmp_ge_t (x := (σ 61 1)) (y := 4000) (t := 39) zd_160_16 rfl c2]
      have H := Option.some.inj H
      subst H
      exact zs_return zd_160_39 (by decide +kernel)
    · rw [if_neg c2] at H
      rw [zp_icmp_ge_f (x := (σ 61 1)) (y := 4000) (t := 39) zd_160_16 rfl c2]
      rw [zs_aload_n (ls := [some (.ref 61), some (.int x1)]) zd_160_19 rfl]
      rw [zs_getR (n := 119) (K := zx_pk (zK L) 119) (ρ := zR) (c := 4) (k := 0) (q := 61) (p := 62) zd_160_20 rfl rfl rfl (by decide) rfl]
      rw [zs_aload_n (ls := [some (.ref 61), some (.int x1)]) zd_160_23 rfl]
      rw [zp_getI (n := 119) (K := zx_pk (zK L) 119) (σ := σ) (c := 4) (k := 1) (q := 61) (v := (σ 61 1)) zd_160_24 rfl rfl rfl (by decide) rfl]
      rw [zs_iload_n (ls := [some (.ref 61), some (.int x1)]) zd_160_27 rfl]
      by_cases c3 : 0 ≤ (σ 61 1) ∧ (σ 61 1) < 4000
      · rw [if_pos c3] at H
        rw [zp_iastore (n := 119) (K := zx_pk (zK L) 119) (q := 62) (m := 4000) (i := (σ 61 1)) (k := (σ 61 1).toNatClampNeg) (x := x1) (z := x1) zd_160_28 rfl ⟨by decide, by decide⟩ (zJ_in c3 rfl) rfl rfl]
        rw [zs_aload_n (ls := [some (.ref 61), some (.int x1)]) zd_160_29 rfl]
        rw [zs_dup (a := .ref 61) zd_160_30 rfl]
        rw [zp_getI (n := 119) (K := zx_pk (zK L) 119) (σ := (zx_up σ 62 (σ 61 1).toNatClampNeg x1)) (c := 4) (k := 1) (q := 61) (v := (σ 61 1)) zd_160_31 rfl rfl rfl (by decide) (show ((zx_up σ 62 (σ 61 1).toNatClampNeg x1) : zS) 61 1 = (σ 61 1) from ((zx_up_ne (by decide)).trans rfl))]
        rw [zs_iconst (z := 1) zd_160_34 (by decide)]
        rw [zp_iadd (x := (σ 61 1)) (y := 1) (z := ((σ 61 1) + 1)) zd_160_35 rfl]
        rw [zs_putI (n := 119) (K := zx_pk (zK L) 119) (c := 4) (k := 1) (q := 61) (x := ((σ 61 1) + 1)) zd_160_36 rfl rfl (by decide +kernel) rfl (by decide)]
        have H := Option.some.inj H
        subst H
        exact zs_return zd_160_39 (by decide +kernel)
      · rw [if_neg c3] at H
        cases H
set_option maxRecDepth 20000 in
theorem zt_Outcomes_note {a b L N : Nat} {σ : zS} {τ : zT} {x1 : Int32} {x2 : Int32} {r : zS} (H : zf_Outcomes_note N σ x1 x2 = some r) : zx_go 2 170 0 [some (.ref 58), some (.int x1), some (.int x2), none] [] ((119, a, b), zx_pk (zK L) 119, σ, τ, zR) = some (none, ((119, a, b), zx_pk (zK L) 119, r, τ, zR)) := by
  unfold zf_Outcomes_note at H
  rw [zs_aload_n (ls := [some (.ref 58), some (.int x1), some (.int x2), none]) zd_170_0 rfl]
  rw [zs_iload_n (ls := [some (.ref 58), some (.int x1), some (.int x2), none]) zd_170_1 rfl]
  obtain ⟨r1, hr1, H⟩ := Option.bind_eq_some_iff.mp H
  rw [zp_callVi (x := r1) (st := [.int x1, .ref 58]) (as := [.ref 58, .int x1]) (rest := []) (e := 1) zd_170_2 rfl (by decide +kernel) (by decide) rfl rfl (Nat.le_of_ble_eq_true rfl) (zx_rcb_ok rfl (show 58 < 119 by decide)) (Nat.le_of_ble_eq_true rfl) rfl (by decide) (zt_Outcomes_slotOf hr1)]
  rw [zs_istore_n (x := r1) (ls' := [some (.ref 58), some (.int x1), some (.int x2), some (.int r1)]) zd_170_5 (Nat.le_of_ble_eq_true rfl) rfl]
  rw [zs_aload_n (ls := [some (.ref 58), some (.int x1), some (.int x2), some (.int r1)]) zd_170_6 rfl]
  rw [zs_getR (n := 119) (K := zx_pk (zK L) 119) (ρ := zR) (c := 5) (k := 3) (q := 58) (p := 63) zd_170_7 rfl rfl rfl (by decide) rfl]
  rw [zs_iload_n (ls := [some (.ref 58), some (.int x1), some (.int x2), some (.int r1)]) zd_170_10 rfl]
  by_cases c2 : 0 ≤ r1 ∧ r1 < 8192
  · rw [if_pos c2] at H
    rw [zp_iaload (n := 119) (K := zx_pk (zK L) 119) (σ := σ) (q := 63) (m := 8192) (i := r1) (k := r1.toNatClampNeg) (v := (σ 63 r1.toNatClampNeg)) zd_170_11 rfl (by decide) (zJ_in c2 rfl) rfl rfl]
    by_cases c3 : ¬ (σ 63 r1.toNatClampNeg) = 0
    · rw [if_pos c3] at H
      rw [zp_if_ne_t (x := (σ 63 r1.toNatClampNeg)) (t := 44) zd_170_12 rfl c3]
      have H := Option.some.inj H
      subst H
      exact zs_return zd_170_44 (by decide +kernel)
    · rw [if_neg c3] at H
      rw [zp_if_ne_f (x := (σ 63 r1.toNatClampNeg)) (t := 44) zd_170_12 rfl c3]
      rw [zs_aload_n (ls := [some (.ref 58), some (.int x1), some (.int x2), some (.int r1)]) zd_170_15 rfl]
      rw [zs_getR (n := 119) (K := zx_pk (zK L) 119) (ρ := zR) (c := 5) (k := 1) (q := 58) (p := 59) zd_170_16 rfl rfl rfl (by decide) rfl]
      rw [zs_iload_n (ls := [some (.ref 58), some (.int x1), some (.int x2), some (.int r1)]) zd_170_19 rfl]
      obtain ⟨r4, hr4, H⟩ := Option.bind_eq_some_iff.mp H
      rw [zp_callVv (st := [.int x1, .ref 59]) (as := [.ref 59, .int x1]) (rest := []) (e := 0) zd_170_20 rfl (by decide +kernel) (by decide) rfl rfl (Nat.le_of_ble_eq_true rfl) (zx_rcb_ok rfl (show 59 < 119 by decide)) (Nat.le_of_ble_eq_true rfl) rfl (by decide) (zt_Numbers_add_c2 hr4)]
      rw [zs_aload_n (ls := [some (.ref 58), some (.int x1), some (.int x2), some (.int r1)]) zd_170_23 rfl]
      rw [zs_getR (n := 119) (K := zx_pk (zK L) 119) (ρ := zR) (c := 5) (k := 2) (q := 58) (p := 61) zd_170_24 rfl rfl rfl (by decide) rfl]
      rw [zs_iload_n (ls := [some (.ref 58), some (.int x1), some (.int x2), some (.int r1)]) zd_170_27 rfl]
      obtain ⟨r5, hr5, H⟩ := Option.bind_eq_some_iff.mp H
      rw [zp_callVv (st := [.int x2, .ref 61]) (as := [.ref 61, .int x2]) (rest := []) (e := 0) zd_170_28 rfl (by decide +kernel) (by decide) rfl rfl (Nat.le_of_ble_eq_true rfl) (zx_rcb_ok rfl (show 61 < 119 by decide)) (Nat.le_of_ble_eq_true rfl) rfl (by decide) (zt_Numbers_add_c3 hr5)]
      rw [zs_aload_n (ls := [some (.ref 58), some (.int x1), some (.int x2), some (.int r1)]) zd_170_31 rfl]
      rw [zs_getR (n := 119) (K := zx_pk (zK L) 119) (ρ := zR) (c := 5) (k := 3) (q := 58) (p := 63) zd_170_32 rfl rfl rfl (by decide) rfl]
      rw [zs_iload_n (ls := [some (.ref 58), some (.int x1), some (.int x2), some (.int r1)]) zd_170_35 rfl]
      rw [zs_aload_n (ls := [some (.ref 58), some (.int x1), some (.int x2), some (.int r1)]) zd_170_36 rfl]
      rw [zs_getR (n := 119) (K := zx_pk (zK L) 119) (ρ := zR) (c := 5) (k := 1) (q := 58) (p := 59) zd_170_37 rfl rfl rfl (by decide) rfl]
      rw [zp_getI (n := 119) (K := zx_pk (zK L) 119) (σ := r5) (c := 4) (k := 1) (q := 59) (v := (r5 59 1)) zd_170_40 rfl rfl rfl (by decide) rfl]
      by_cases c6 : 0 ≤ r1 ∧ r1 < 8192
      · rw [if_pos c6] at H
        rw [zp_iastore (n := 119) (K := zx_pk (zK L) 119) (q := 63) (m := 8192) (i := r1) (k := r1.toNatClampNeg) (x := (r5 59 1)) (z := (r5 59 1)) zd_170_43 rfl ⟨by decide, by decide⟩ (zJ_in c6 rfl) rfl rfl]
        have H := Option.some.inj H
        subst H
        exact zs_return zd_170_44 (by decide +kernel)
      · rw [if_neg c6] at H
        cases H
  · rw [if_neg c2] at H
    cases H
set_option maxRecDepth 20000 in
theorem zt_Outcomes_gather_57 {a b L N : Nat} {k24 : zS → Int32 → Option (zS)} (hk24 : ∀ {σ : zS} {τ : zT} {v2 : Int32} {r : zS}, k24 σ v2 = some r → zx_go 4 168 24 [some (.ref 58), some (.ref 41), some (.int v2)] [] ((119, a, b), zx_pk (zK L) 119, σ, τ, zR) = some (none, ((119, a, b), zx_pk (zK L) 119, r, τ, zR))) {σ : zS} {τ : zT} {v2 : Int32} {r : zS} (H : zb_Outcomes_gather_57 k24 N σ v2 = some r) : zx_go 4 168 57 [some (.ref 58), some (.ref 41), some (.int v2)] [] ((119, a, b), zx_pk (zK L) 119, σ, τ, zR) = some (none, ((119, a, b), zx_pk (zK L) 119, r, τ, zR)) := by
  unfold zb_Outcomes_gather_57 at H
  rw [zs_iinc (ls := [some (.ref 58), some (.ref 41), some (.int v2)]) (x := v2) (z := (v2 + 1)) (ls' := [some (.ref 58), some (.ref 41), some (.int (v2 + 1))]) zd_168_57 rfl rfl rfl]
  rw [zs_goto (t := 24) zd_168_60 rfl]
  exact hk24 H
set_option maxRecDepth 20000 in
theorem zt_Outcomes_gather_24 {a b L N : Nat} : ∀ {n : Nat} {σ : zS} {τ : zT} {v2 : Int32} {r : zS}, zb_Outcomes_gather_24 N n σ v2 = some r → zx_go 4 168 24 [some (.ref 58), some (.ref 41), some (.int v2)] [] ((119, a, b), zx_pk (zK L) 119, σ, τ, zR) = some (none, ((119, a, b), zx_pk (zK L) 119, r, τ, zR)) := by
  intro n
  induction n with
  | zero =>
    intro _ _ _ _ H
    cases H
  | succ n ih =>
    intro σ τ v2 r H
    rw [zb_Outcomes_gather_24] at H
    rw [zs_iload_n (ls := [some (.ref 58), some (.ref 41), some (.int v2)]) zd_168_24 rfl]
    rw [zs_aload_n (ls := [some (.ref 58), some (.ref 41), some (.int v2)]) zd_168_25 rfl]
    rw [zp_getI (n := 119) (K := zx_pk (zK L) 119) (σ := σ) (c := 8) (k := 6) (q := 41) (v := (σ 41 6)) zd_168_26 rfl rfl rfl (by decide) rfl]
    by_cases c4 : (σ 41 6) ≤ v2
    · rw [if_pos c4] at H
      rw [zp_icmp_ge_t (x := v2) (y := (σ 41 6)) (t := 63) zd_168_29 rfl c4]
      have H := Option.some.inj H
      subst H
      exact zs_return zd_168_63 (by decide +kernel)
    · rw [if_neg c4] at H
      rw [zp_icmp_ge_f (x := v2) (y := (σ 41 6)) (t := 63) zd_168_29 rfl c4]
      rw [zs_aload_n (ls := [some (.ref 58), some (.ref 41), some (.int v2)]) zd_168_32 rfl]
      rw [zs_iload_n (ls := [some (.ref 58), some (.ref 41), some (.int v2)]) zd_168_33 rfl]
      obtain ⟨r5, hr5, H⟩ := Option.bind_eq_some_iff.mp H
      rw [zp_callVi (x := r5) (st := [.int v2, .ref 41]) (as := [.ref 41, .int v2]) (rest := []) (e := 1) zd_168_34 rfl (by decide +kernel) (by decide) rfl rfl (Nat.le_of_ble_eq_true rfl) (zx_rcb_ok rfl (show 41 < 119 by decide)) (Nat.le_of_ble_eq_true rfl) rfl (by decide) (zt_Space_isLast hr5)]
      by_cases c6 : r5 = 0
      · rw [if_pos c6] at H
        rw [zp_if_eq_t (x := r5) (t := 57) zd_168_37 rfl c6]
        exact zt_Outcomes_gather_57 (hk24 := ih) H
      · rw [if_neg c6] at H
        rw [zp_if_eq_f (x := r5) (t := 57) zd_168_37 rfl c6]
        rw [zs_aload_n (ls := [some (.ref 58), some (.ref 41), some (.int v2)]) zd_168_40 rfl]
        rw [zs_iload_n (ls := [some (.ref 58), some (.ref 41), some (.int v2)]) zd_168_41 rfl]
        obtain ⟨r7, hr7, H⟩ := Option.bind_eq_some_iff.mp H
        rw [zp_callVv (st := [.int v2, .ref 41]) (as := [.ref 41, .int v2]) (rest := []) (e := 3) zd_168_42 rfl (by decide +kernel) (by decide) rfl rfl (Nat.le_of_ble_eq_true rfl) (zx_rcb_ok rfl (show 41 < 119 by decide)) (Nat.le_of_ble_eq_true rfl) rfl (by decide) (zt_Space_load hr7)]
        rw [zs_aload_n (ls := [some (.ref 58), some (.ref 41), some (.int v2)]) zd_168_45 rfl]
        rw [zs_aload_n (ls := [some (.ref 58), some (.ref 41), some (.int v2)]) zd_168_46 rfl]
        rw [zs_getR (n := 119) (K := zx_pk (zK L) 119) (ρ := zR) (c := 5) (k := 0) (q := 58) (p := 35) zd_168_47 rfl rfl rfl (by decide) rfl]
        obtain ⟨r8, hr8, H⟩ := Option.bind_eq_some_iff.mp H
        rw [zp_callVi (x := r8) (st := [.ref 35, .ref 58]) (as := [.ref 35]) (rest := [.ref 58]) (e := 3) zd_168_50 rfl (by decide +kernel) (by decide) rfl rfl (Nat.le_of_ble_eq_true rfl) (zx_rcb_ok rfl (show 35 < 119 by decide)) (Nat.le_of_ble_eq_true rfl) rfl (by decide) (zt_Machine_outcome hr8)]
        rw [zs_iload_n (ls := [some (.ref 58), some (.ref 41), some (.int v2)]) zd_168_53 rfl]
        obtain ⟨r9, hr9, H⟩ := Option.bind_eq_some_iff.mp H
        rw [zp_callVv (st := [.int v2, .int r8, .ref 58]) (as := [.ref 58, .int r8, .int v2]) (rest := []) (e := 2) zd_168_54 rfl (by decide +kernel) (by decide) rfl rfl (Nat.le_of_ble_eq_true rfl) (zx_rcb_ok rfl (show 58 < 119 by decide)) (Nat.le_of_ble_eq_true rfl) rfl (by decide) (zt_Outcomes_note hr9)]
        exact zt_Outcomes_gather_57 (hk24 := ih) H
set_option maxRecDepth 20000 in
theorem zt_Outcomes_gather {a b L N : Nat} {σ : zS} {τ : zT} {r : zS} (H : zf_Outcomes_gather N σ = some r) : zx_go 4 168 0 [some (.ref 58), some (.ref 41), none] [] ((119, a, b), zx_pk (zK L) 119, σ, τ, zR) = some (none, ((119, a, b), zx_pk (zK L) 119, r, τ, zR)) := by
  unfold zf_Outcomes_gather at H
  rw [zs_aload_n (ls := [some (.ref 58), some (.ref 41), none]) zd_168_0 rfl]
  rw [zs_getR (n := 119) (K := zx_pk (zK L) 119) (ρ := zR) (c := 5) (k := 1) (q := 58) (p := 59) zd_168_1 rfl rfl rfl (by decide) rfl]
  obtain ⟨r1, hr1, H⟩ := Option.bind_eq_some_iff.mp H
  rw [zp_callVv (st := [.ref 59]) (as := [.ref 59]) (rest := []) (e := 0) zd_168_4 rfl (by decide +kernel) (by decide) rfl rfl (Nat.le_of_ble_eq_true rfl) (zx_rcb_ok rfl (show 59 < 119 by decide)) (Nat.le_of_ble_eq_true rfl) rfl (by decide) (zt_Numbers_clear_c5 hr1)]
  rw [zs_aload_n (ls := [some (.ref 58), some (.ref 41), none]) zd_168_7 rfl]
  rw [zs_getR (n := 119) (K := zx_pk (zK L) 119) (ρ := zR) (c := 5) (k := 2) (q := 58) (p := 61) zd_168_8 rfl rfl rfl (by decide) rfl]
  obtain ⟨r2, hr2, H⟩ := Option.bind_eq_some_iff.mp H
  rw [zp_callVv (st := [.ref 61]) (as := [.ref 61]) (rest := []) (e := 0) zd_168_11 rfl (by decide +kernel) (by decide) rfl rfl (Nat.le_of_ble_eq_true rfl) (zx_rcb_ok rfl (show 61 < 119 by decide)) (Nat.le_of_ble_eq_true rfl) rfl (by decide) (zt_Numbers_clear_c6 hr2)]
  rw [zs_aload_n (ls := [some (.ref 58), some (.ref 41), none]) zd_168_14 rfl]
  rw [zs_getR (n := 119) (K := zx_pk (zK L) 119) (ρ := zR) (c := 5) (k := 3) (q := 58) (p := 63) zd_168_15 rfl rfl rfl (by decide) rfl]
  rw [zs_iconst (z := 0) zd_168_18 (by decide)]
  obtain ⟨r3, hr3, H⟩ := Option.bind_eq_some_iff.mp H
  rw [zp_callSv (st := [.int 0, .ref 63]) (as := [.ref 63, .int 0]) (rest := []) (e := 0) zd_168_19 rfl (by decide +kernel) (by decide) rfl rfl (Nat.le_of_ble_eq_true rfl) rfl (Nat.le_of_ble_eq_true rfl) rfl (by decide) (zt_Arrays_fill_c6 hr3)]
  rw [zs_iconst (z := 0) zd_168_22 (by decide)]
  rw [zs_istore_n (x := 0) (ls' := [some (.ref 58), some (.ref 41), some (.int 0)]) zd_168_23 (Nat.le_of_ble_eq_true rfl) rfl]
  exact zt_Outcomes_gather_24  H
set_option maxRecDepth 20000 in
theorem zt_Program_clash_81 {a b L : Nat} {σ : zS} {τ : zT} {v2 : Int32} {v3 : Int32} {v4 : Int32} {s0 : Int32} {o1 : Option Value} {o5 : Option Value} {r : Int32} (H : zb_Program_clash_81 σ v2 v3 v4 s0 = some r) : zx_go 0 166 81 [some (.ref 4), o1, some (.int v2), some (.int v3), some (.int v4), o5] [.int s0] ((119, a, b), zx_pk (zK L) 119, σ, τ, zR) = some (some (.int r), ((119, a, b), zx_pk (zK L) 119, σ, τ, zR)) := by
  unfold zb_Program_clash_81 at H
  rw [zs_istore (x := s0) (ls' := [some (.ref 4), o1, some (.int v2), some (.int v3), some (.int v4), some (.int s0)]) zd_166_81 (Nat.le_of_ble_eq_true rfl) rfl]
  rw [zs_iload (ls := [some (.ref 4), o1, some (.int v2), some (.int v3), some (.int v4), some (.int s0)]) zd_166_83 rfl]
  by_cases c10 : v4 = 0
  · rw [if_pos c10] at H
    rw [zp_if_eq_t (x := v4) (t := 118) zd_166_85 rfl c10]
    rw [zs_iconst (z := 0) zd_166_118 (by decide)]
    have H := Option.some.inj H
    subst H
    exact zs_ireturn zd_166_119 (by decide +kernel)
  · rw [if_neg c10] at H
    rw [zp_if_eq_f (x := v4) (t := 118) zd_166_85 rfl c10]
    rw [zs_iload (ls := [some (.ref 4), o1, some (.int v2), some (.int v3), some (.int v4), some (.int s0)]) zd_166_88 rfl]
    by_cases c11 : s0 = 0
    · rw [if_pos c11] at H
      rw [zp_if_eq_t (x := s0) (t := 118) zd_166_90 rfl c11]
      rw [zs_iconst (z := 0) zd_166_118 (by decide)]
      have H := Option.some.inj H
      subst H
      exact zs_ireturn zd_166_119 (by decide +kernel)
    · rw [if_neg c11] at H
      rw [zp_if_eq_f (x := s0) (t := 118) zd_166_90 rfl c11]
      rw [zs_iload_n (ls := [some (.ref 4), o1, some (.int v2), some (.int v3), some (.int v4), some (.int s0)]) zd_166_93 rfl]
      rw [zs_aload_n (ls := [some (.ref 4), o1, some (.int v2), some (.int v3), some (.int v4), some (.int s0)]) zd_166_94 rfl]
      rw [zs_getR (n := 119) (K := zx_pk (zK L) 119) (ρ := zR) (c := 6) (k := 10) (q := 4) (p := 8) zd_166_95 rfl rfl rfl (by decide) rfl]
      rw [zs_iload_n (ls := [some (.ref 4), o1, some (.int v2), some (.int v3), some (.int v4), some (.int s0)]) zd_166_98 rfl]
      by_cases c12 : 0 ≤ v2 ∧ v2 < 97
      · rw [if_pos c12] at H
        rw [zp_iaload (n := 119) (K := zx_pk (zK L) 119) (σ := σ) (q := 8) (m := 97) (i := v2) (k := v2.toNatClampNeg) (v := (σ 8 v2.toNatClampNeg)) zd_166_99 rfl (by decide) (zJ_in c12 rfl) rfl rfl]
        by_cases c13 : ¬ v3 = (σ 8 v2.toNatClampNeg)
        · rw [if_pos c13] at H
          rw [zp_icmp_ne_t (x := v3) (y := (σ 8 v2.toNatClampNeg)) (t := 118) zd_166_100 rfl c13]
          rw [zs_iconst (z := 0) zd_166_118 (by decide)]
          have H := Option.some.inj H
          subst H
          exact zs_ireturn zd_166_119 (by decide +kernel)
        · rw [if_neg c13] at H
          rw [zp_icmp_ne_f (x := v3) (y := (σ 8 v2.toNatClampNeg)) (t := 118) zd_166_100 rfl c13]
          rw [zs_aload_n (ls := [some (.ref 4), o1, some (.int v2), some (.int v3), some (.int v4), some (.int s0)]) zd_166_103 rfl]
          rw [zp_getI (n := 119) (K := zx_pk (zK L) 119) (σ := σ) (c := 6) (k := 6) (q := 4) (v := (σ 4 6)) zd_166_104 rfl rfl rfl (by decide) rfl]
          rw [zs_iload_n (ls := [some (.ref 4), o1, some (.int v2), some (.int v3), some (.int v4), some (.int s0)]) zd_166_107 rfl]
          rw [zp_iushr (x := (σ 4 6)) (y := v3) (z := (zJ_ushr (σ 4 6) v3)) zd_166_108 rfl]
          rw [zs_iconst (z := 1) zd_166_109 (by decide)]
          rw [zp_iand (x := (zJ_ushr (σ 4 6) v3)) (y := 1) (z := ((zJ_ushr (σ 4 6) v3) &&& 1)) zd_166_110 rfl]
          by_cases c14 : ¬ ((zJ_ushr (σ 4 6) v3) &&& 1) = 0
          · rw [if_pos c14] at H
            rw [zp_if_ne_t (x := ((zJ_ushr (σ 4 6) v3) &&& 1)) (t := 118) zd_166_111 rfl c14]
            rw [zs_iconst (z := 0) zd_166_118 (by decide)]
            have H := Option.some.inj H
            subst H
            exact zs_ireturn zd_166_119 (by decide +kernel)
          · rw [if_neg c14] at H
            rw [zp_if_ne_f (x := ((zJ_ushr (σ 4 6) v3) &&& 1)) (t := 118) zd_166_111 rfl c14]
            rw [zs_iconst (z := 1) zd_166_114 (by decide)]
            rw [zs_goto (t := 119) zd_166_115 rfl]
            have H := Option.some.inj H
            subst H
            exact zs_ireturn zd_166_119 (by decide +kernel)
      · rw [if_neg c12] at H
        cases H
set_option maxRecDepth 20000 in
theorem zt_Program_clash_76 {a b L : Nat} {σ : zS} {τ : zT} {v2 : Int32} {v3 : Int32} {v4 : Int32} {o1 : Option Value} {o5 : Option Value} {r : Int32} (H : zb_Program_clash_76 σ v2 v3 v4 = some r) : zx_go 0 166 76 [some (.ref 4), o1, some (.int v2), some (.int v3), some (.int v4), o5] [] ((119, a, b), zx_pk (zK L) 119, σ, τ, zR) = some (some (.int r), ((119, a, b), zx_pk (zK L) 119, σ, τ, zR)) := by
  unfold zb_Program_clash_76 at H
  rw [zs_iconst (z := 1) zd_166_76 (by decide)]
  rw [zs_goto (t := 81) zd_166_77 rfl]
  exact zt_Program_clash_81  H
set_option maxRecDepth 20000 in
theorem zt_Program_clash_54 {a b L : Nat} {σ : zS} {τ : zT} {v1 : Int32} {v2 : Int32} {v3 : Int32} {s0 : Int32} {o4 : Option Value} {o5 : Option Value} {r : Int32} (H : zb_Program_clash_54 σ v1 v2 v3 s0 = some r) : zx_go 0 166 54 [some (.ref 4), some (.int v1), some (.int v2), some (.int v3), o4, o5] [.int s0] ((119, a, b), zx_pk (zK L) 119, σ, τ, zR) = some (some (.int r), ((119, a, b), zx_pk (zK L) 119, σ, τ, zR)) := by
  unfold zb_Program_clash_54 at H
  rw [zs_istore (x := s0) (ls' := [some (.ref 4), some (.int v1), some (.int v2), some (.int v3), some (.int s0), o5]) zd_166_54 (Nat.le_of_ble_eq_true rfl) rfl]
  rw [zs_aload_n (ls := [some (.ref 4), some (.int v1), some (.int v2), some (.int v3), some (.int s0), o5]) zd_166_56 rfl]
  rw [zs_getR (n := 119) (K := zx_pk (zK L) 119) (ρ := zR) (c := 6) (k := 9) (q := 4) (p := 7) zd_166_57 rfl rfl rfl (by decide) rfl]
  rw [zs_iload_n (ls := [some (.ref 4), some (.int v1), some (.int v2), some (.int v3), some (.int s0), o5]) zd_166_60 rfl]
  by_cases c8 : 0 ≤ v1 ∧ v1 < 97
  · rw [if_pos c8] at H
    rw [zp_iaload (n := 119) (K := zx_pk (zK L) 119) (σ := σ) (q := 7) (m := 97) (i := v1) (k := v1.toNatClampNeg) (v := (σ 7 v1.toNatClampNeg)) zd_166_61 rfl (by decide) (zJ_in c8 rfl) rfl rfl]
    rw [zs_iconst (z := 1) zd_166_62 (by decide)]
    by_cases c9 : (σ 7 v1.toNatClampNeg) = 1
    · rw [if_pos c9] at H
      rw [zp_icmp_eq_t (x := (σ 7 v1.toNatClampNeg)) (y := 1) (t := 76) zd_166_63 rfl c9]
      exact zt_Program_clash_76  H
    · rw [if_neg c9] at H
      rw [zp_icmp_eq_f (x := (σ 7 v1.toNatClampNeg)) (y := 1) (t := 76) zd_166_63 rfl c9]
      rw [zs_aload_n (ls := [some (.ref 4), some (.int v1), some (.int v2), some (.int v3), some (.int s0), o5]) zd_166_66 rfl]
      rw [zs_getR (n := 119) (K := zx_pk (zK L) 119) (ρ := zR) (c := 6) (k := 9) (q := 4) (p := 7) zd_166_67 rfl rfl rfl (by decide) rfl]
      rw [zs_iload_n (ls := [some (.ref 4), some (.int v1), some (.int v2), some (.int v3), some (.int s0), o5]) zd_166_70 rfl]
      by_cases c15 : 0 ≤ v2 ∧ v2 < 97
      · rw [if_pos c15] at H
        rw [zp_iaload (n := 119) (K := zx_pk (zK L) 119) (σ := σ) (q := 7) (m := 97) (i := v2) (k := v2.toNatClampNeg) (v := (σ 7 v2.toNatClampNeg)) zd_166_71 rfl (by decide) (zJ_in c15 rfl) rfl rfl]
        rw [zs_iconst (z := 1) zd_166_72 (by decide)]
        by_cases c16 : ¬ (σ 7 v2.toNatClampNeg) = 1
        · rw [if_pos c16] at H
          rw [zp_icmp_ne_t (x := (σ 7 v2.toNatClampNeg)) (y := 1) (t := 80) zd_166_73 rfl c16]
          rw [zs_iconst (z := 0) zd_166_80 (by decide)]
          exact zt_Program_clash_81  H
        · rw [if_neg c16] at H
          rw [zp_icmp_ne_f (x := (σ 7 v2.toNatClampNeg)) (y := 1) (t := 80) zd_166_73 rfl c16]
          exact zt_Program_clash_76  H
      · rw [if_neg c15] at H
        cases H
  · rw [if_neg c8] at H
    cases H
set_option maxRecDepth 20000 in
theorem zt_Program_clash_53 {a b L : Nat} {σ : zS} {τ : zT} {v1 : Int32} {v2 : Int32} {v3 : Int32} {o4 : Option Value} {o5 : Option Value} {r : Int32} (H : zb_Program_clash_53 σ v1 v2 v3 = some r) : zx_go 0 166 53 [some (.ref 4), some (.int v1), some (.int v2), some (.int v3), o4, o5] [] ((119, a, b), zx_pk (zK L) 119, σ, τ, zR) = some (some (.int r), ((119, a, b), zx_pk (zK L) 119, σ, τ, zR)) := by
  unfold zb_Program_clash_53 at H
  rw [zs_iconst (z := 0) zd_166_53 (by decide)]
  exact zt_Program_clash_54  H
set_option maxRecDepth 20000 in
theorem zt_Program_clash {a b L : Nat} {σ : zS} {τ : zT} {x1 : Int32} {x2 : Int32} {r : Int32} (H : zf_Program_clash σ x1 x2 = some r) : zx_go 0 166 0 [some (.ref 4), some (.int x1), some (.int x2), none, none, none] [] ((119, a, b), zx_pk (zK L) 119, σ, τ, zR) = some (some (.int r), ((119, a, b), zx_pk (zK L) 119, σ, τ, zR)) := by
  unfold zf_Program_clash at H
  rw [zs_iload_n (ls := [some (.ref 4), some (.int x1), some (.int x2), none, none, none]) zd_166_0 rfl]
  by_cases c1 : x1 < 0
  · rw [if_pos c1] at H
    rw [zp_if_lt_t (x := x1) (t := 20) zd_166_1 rfl c1]
    rw [zs_iconst (z := 0) zd_166_20 (by decide)]
    have H := Option.some.inj H
    subst H
    exact zs_ireturn zd_166_21 (by decide +kernel)
  · rw [if_neg c1] at H
    rw [zp_if_lt_f (x := x1) (t := 20) zd_166_1 rfl c1]
    rw [zs_iload_n (ls := [some (.ref 4), some (.int x1), some (.int x2), none, none, none]) zd_166_4 rfl]
    rw [zs_bipush (z := 96) zd_166_5 (by decide)]
    by_cases c2 : 96 ≤ x1
    · rw [if_pos c2] at H
      rw [zp_icmp_ge_t (x := x1) (y := 96) (t := 20) zd_166_7 rfl c2]
      rw [zs_iconst (z := 0) zd_166_20 (by decide)]
      have H := Option.some.inj H
      subst H
      exact zs_ireturn zd_166_21 (by decide +kernel)
    · rw [if_neg c2] at H
      rw [zp_icmp_ge_f (x := x1) (y := 96) (t := 20) zd_166_7 rfl c2]
      rw [zs_iload_n (ls := [some (.ref 4), some (.int x1), some (.int x2), none, none, none]) zd_166_10 rfl]
      by_cases c3 : x2 < 0
      · rw [if_pos c3] at H
        rw [zp_if_lt_t (x := x2) (t := 20) zd_166_11 rfl c3]
        rw [zs_iconst (z := 0) zd_166_20 (by decide)]
        have H := Option.some.inj H
        subst H
        exact zs_ireturn zd_166_21 (by decide +kernel)
      · rw [if_neg c3] at H
        rw [zp_if_lt_f (x := x2) (t := 20) zd_166_11 rfl c3]
        rw [zs_iload_n (ls := [some (.ref 4), some (.int x1), some (.int x2), none, none, none]) zd_166_14 rfl]
        rw [zs_bipush (z := 96) zd_166_15 (by decide)]
        by_cases c4 : x2 < 96
        · rw [if_pos c4] at H
          rw [zp_icmp_lt_t (x := x2) (y := 96) (t := 22) zd_166_17 rfl c4]
          rw [zs_aload_n (ls := [some (.ref 4), some (.int x1), some (.int x2), none, none, none]) zd_166_22 rfl]
          rw [zs_getR (n := 119) (K := zx_pk (zK L) 119) (ρ := zR) (c := 6) (k := 10) (q := 4) (p := 8) zd_166_23 rfl rfl rfl (by decide) rfl]
          rw [zs_iload_n (ls := [some (.ref 4), some (.int x1), some (.int x2), none, none, none]) zd_166_26 rfl]
          by_cases c5 : 0 ≤ x1 ∧ x1 < 97
          · rw [if_pos c5] at H
            rw [zp_iaload (n := 119) (K := zx_pk (zK L) 119) (σ := σ) (q := 8) (m := 97) (i := x1) (k := x1.toNatClampNeg) (v := (σ 8 x1.toNatClampNeg)) zd_166_27 rfl (by decide) (zJ_in c5 rfl) rfl rfl]
            rw [zs_istore_n (x := (σ 8 x1.toNatClampNeg)) (ls' := [some (.ref 4), some (.int x1), some (.int x2), some (.int (σ 8 x1.toNatClampNeg)), none, none]) zd_166_28 (Nat.le_of_ble_eq_true rfl) rfl]
            rw [zs_aload_n (ls := [some (.ref 4), some (.int x1), some (.int x2), some (.int (σ 8 x1.toNatClampNeg)), none, none]) zd_166_29 rfl]
            rw [zs_getR (n := 119) (K := zx_pk (zK L) 119) (ρ := zR) (c := 6) (k := 9) (q := 4) (p := 7) zd_166_30 rfl rfl rfl (by decide) rfl]
            rw [zs_iload_n (ls := [some (.ref 4), some (.int x1), some (.int x2), some (.int (σ 8 x1.toNatClampNeg)), none, none]) zd_166_33 rfl]
            by_cases c6 : 0 ≤ x1 ∧ x1 < 97
            · rw [if_pos c6] at H
              rw [zp_iaload (n := 119) (K := zx_pk (zK L) 119) (σ := σ) (q := 7) (m := 97) (i := x1) (k := x1.toNatClampNeg) (v := (σ 7 x1.toNatClampNeg)) zd_166_34 rfl (by decide) (zJ_in c6 rfl) rfl rfl]
              rw [zs_iconst (z := 1) zd_166_35 (by decide)]
              by_cases c7 : 1 < (σ 7 x1.toNatClampNeg)
              · rw [if_pos c7] at H
                rw [zp_icmp_gt_t (x := (σ 7 x1.toNatClampNeg)) (y := 1) (t := 53) zd_166_36 rfl c7]
                exact zt_Program_clash_53  H
              · rw [if_neg c7] at H
                rw [zp_icmp_gt_f (x := (σ 7 x1.toNatClampNeg)) (y := 1) (t := 53) zd_166_36 rfl c7]
                rw [zs_aload_n (ls := [some (.ref 4), some (.int x1), some (.int x2), some (.int (σ 8 x1.toNatClampNeg)), none, none]) zd_166_39 rfl]
                rw [zs_getR (n := 119) (K := zx_pk (zK L) 119) (ρ := zR) (c := 6) (k := 9) (q := 4) (p := 7) zd_166_40 rfl rfl rfl (by decide) rfl]
                rw [zs_iload_n (ls := [some (.ref 4), some (.int x1), some (.int x2), some (.int (σ 8 x1.toNatClampNeg)), none, none]) zd_166_43 rfl]
                by_cases c17 : 0 ≤ x2 ∧ x2 < 97
                · rw [if_pos c17] at H
                  rw [zp_iaload (n := 119) (K := zx_pk (zK L) 119) (σ := σ) (q := 7) (m := 97) (i := x2) (k := x2.toNatClampNeg) (v := (σ 7 x2.toNatClampNeg)) zd_166_44 rfl (by decide) (zJ_in c17 rfl) rfl rfl]
                  rw [zs_iconst (z := 1) zd_166_45 (by decide)]
                  by_cases c18 : 1 < (σ 7 x2.toNatClampNeg)
                  · rw [if_pos c18] at H
                    rw [zp_icmp_gt_t (x := (σ 7 x2.toNatClampNeg)) (y := 1) (t := 53) zd_166_46 rfl c18]
                    exact zt_Program_clash_53  H
                  · rw [if_neg c18] at H
                    rw [zp_icmp_gt_f (x := (σ 7 x2.toNatClampNeg)) (y := 1) (t := 53) zd_166_46 rfl c18]
                    rw [zs_iconst (z := 1) zd_166_49 (by decide)]
                    rw [zs_goto (t := 54) zd_166_50 rfl]
                    exact zt_Program_clash_54  H
                · rw [if_neg c17] at H
                  cases H
            · rw [if_neg c6] at H
              cases H
          · rw [if_neg c5] at H
            cases H
        · rw [if_neg c4] at H
          rw [zp_icmp_lt_f (x := x2) (y := 96) (t := 22) zd_166_17 rfl c4]
          rw [zs_iconst (z := 0) zd_166_20 (by decide)]
          have H := Option.some.inj H
          subst H
          exact zs_ireturn zd_166_21 (by decide +kernel)
set_option maxRecDepth 20000 in
theorem zt_Findings_noteRace {a b L : Nat} {σ : zS} {τ : zT} {x1 : Int32} {x2 : Int32} {x3 : Int32} {r : zS} (H : zf_Findings_noteRace σ x1 x2 x3 = some r) : zx_go 1 165 0 [some (.ref 46), some (.int x1), some (.int x2), some (.int x3), none] [] ((119, a, b), zx_pk (zK L) 119, σ, τ, zR) = some (none, ((119, a, b), zx_pk (zK L) 119, r, τ, zR)) := by
  unfold zf_Findings_noteRace at H
  rw [zs_aload_n (ls := [some (.ref 46), some (.int x1), some (.int x2), some (.int x3), none]) zd_165_0 rfl]
  rw [zs_getR (n := 119) (K := zx_pk (zK L) 119) (ρ := zR) (c := 0) (k := 0) (q := 46) (p := 4) zd_165_1 rfl rfl rfl (by decide) rfl]
  rw [zs_iload_n (ls := [some (.ref 46), some (.int x1), some (.int x2), some (.int x3), none]) zd_165_4 rfl]
  rw [zs_iload_n (ls := [some (.ref 46), some (.int x1), some (.int x2), some (.int x3), none]) zd_165_5 rfl]
  obtain ⟨r1, hr1, H⟩ := Option.bind_eq_some_iff.mp H
  rw [zp_callVi (x := r1) (st := [.int x2, .int x1, .ref 4]) (as := [.ref 4, .int x1, .int x2]) (rest := []) (e := 0) zd_165_6 rfl (by decide +kernel) (by decide) rfl rfl (Nat.le_of_ble_eq_true rfl) (zx_rcb_ok rfl (show 4 < 119 by decide)) (Nat.le_of_ble_eq_true rfl) rfl (by decide) (zt_Program_clash hr1)]
  by_cases c2 : r1 = 0
  · rw [if_pos c2] at H
    rw [zp_if_eq_t (x := r1) (t := 54) zd_165_9 rfl c2]
    have H := Option.some.inj H
    subst H
    exact zs_return zd_165_54 (by decide +kernel)
  · rw [if_neg c2] at H
    rw [zp_if_eq_f (x := r1) (t := 54) zd_165_9 rfl c2]
    rw [zs_iload_n (ls := [some (.ref 46), some (.int x1), some (.int x2), some (.int x3), none]) zd_165_12 rfl]
    rw [zs_bipush (z := 96) zd_165_13 (by decide)]
    rw [zp_imul (x := x1) (y := 96) (z := (x1 * 96)) zd_165_15 rfl]
    rw [zs_iload_n (ls := [some (.ref 46), some (.int x1), some (.int x2), some (.int x3), none]) zd_165_16 rfl]
    rw [zp_iadd (x := (x1 * 96)) (y := x2) (z := ((x1 * 96) + x2)) zd_165_17 rfl]
    rw [zs_istore (x := ((x1 * 96) + x2)) (ls' := [some (.ref 46), some (.int x1), some (.int x2), some (.int x3), some (.int ((x1 * 96) + x2))]) zd_165_18 (Nat.le_of_ble_eq_true rfl) rfl]
    rw [zs_iload (ls := [some (.ref 46), some (.int x1), some (.int x2), some (.int x3), some (.int ((x1 * 96) + x2))]) zd_165_20 rfl]
    by_cases c3 : ((x1 * 96) + x2) < 0
    · rw [if_pos c3] at H
      rw [zp_if_lt_t (x := ((x1 * 96) + x2)) (t := 54) zd_165_22 rfl c3]
      have H := Option.some.inj H
      subst H
      exact zs_return zd_165_54 (by decide +kernel)
    · rw [if_neg c3] at H
      rw [zp_if_lt_f (x := ((x1 * 96) + x2)) (t := 54) zd_165_22 rfl c3]
      rw [zs_iload (ls := [some (.ref 46), some (.int x1), some (.int x2), some (.int x3), some (.int ((x1 * 96) + x2))]) zd_165_25 rfl]
      rw [zs_aload_n (ls := [some (.ref 46), some (.int x1), some (.int x2), some (.int x3), some (.int ((x1 * 96) + x2))]) zd_165_27 rfl]
      rw [zs_getR (n := 119) (K := zx_pk (zK L) 119) (ρ := zR) (c := 0) (k := 8) (q := 46) (p := 57) zd_165_28 rfl rfl rfl (by decide) rfl]
      rw [zs_arraylength (n := 119) (K := zx_pk (zK L) 119) (q := 57) (m := 9216) (z := 9216) zd_165_31 rfl (by decide) (by decide)]
      by_cases c4 : 9216 ≤ ((x1 * 96) + x2)
      · rw [if_pos c4] at H
        rw [zp_icmp_ge_t (x := ((x1 * 96) + x2)) (y := 9216) (t := 54) zd_165_32 rfl c4]
        have H := Option.some.inj H
        subst H
        exact zs_return zd_165_54 (by decide +kernel)
      · rw [if_neg c4] at H
        rw [zp_icmp_ge_f (x := ((x1 * 96) + x2)) (y := 9216) (t := 54) zd_165_32 rfl c4]
        rw [zs_aload_n (ls := [some (.ref 46), some (.int x1), some (.int x2), some (.int x3), some (.int ((x1 * 96) + x2))]) zd_165_35 rfl]
        rw [zs_getR (n := 119) (K := zx_pk (zK L) 119) (ρ := zR) (c := 0) (k := 8) (q := 46) (p := 57) zd_165_36 rfl rfl rfl (by decide) rfl]
        rw [zs_iload (ls := [some (.ref 46), some (.int x1), some (.int x2), some (.int x3), some (.int ((x1 * 96) + x2))]) zd_165_39 rfl]
        by_cases c5 : 0 ≤ ((x1 * 96) + x2) ∧ ((x1 * 96) + x2) < 9216
        · rw [if_pos c5] at H
          rw [zp_iaload (n := 119) (K := zx_pk (zK L) 119) (σ := σ) (q := 57) (m := 9216) (i := ((x1 * 96) + x2)) (k := ((x1 * 96) + x2).toNatClampNeg) (v := (σ 57 ((x1 * 96) + x2).toNatClampNeg)) zd_165_41 rfl (by decide) (zJ_in c5 rfl) rfl rfl]
          rw [zs_iconst (z := (-1)) zd_165_42 (by decide)]
          by_cases c6 : ¬ (σ 57 ((x1 * 96) + x2).toNatClampNeg) = (-1)
          · rw [if_pos c6] at H
            rw [zp_icmp_ne_t (x := (σ 57 ((x1 * 96) + x2).toNatClampNeg)) (y := (-1)) (t := 54) zd_165_43 rfl c6]
            have H := Option.some.inj H
            subst H
            exact zs_return zd_165_54 (by decide +kernel)
          · rw [if_neg c6] at H
            rw [zp_icmp_ne_f (x := (σ 57 ((x1 * 96) + x2).toNatClampNeg)) (y := (-1)) (t := 54) zd_165_43 rfl c6]
            rw [zs_aload_n (ls := [some (.ref 46), some (.int x1), some (.int x2), some (.int x3), some (.int ((x1 * 96) + x2))]) zd_165_46 rfl]
            rw [zs_getR (n := 119) (K := zx_pk (zK L) 119) (ρ := zR) (c := 0) (k := 8) (q := 46) (p := 57) zd_165_47 rfl rfl rfl (by decide) rfl]
            rw [zs_iload (ls := [some (.ref 46), some (.int x1), some (.int x2), some (.int x3), some (.int ((x1 * 96) + x2))]) zd_165_50 rfl]
            rw [zs_iload_n (ls := [some (.ref 46), some (.int x1), some (.int x2), some (.int x3), some (.int ((x1 * 96) + x2))]) zd_165_52 rfl]
            by_cases c7 : 0 ≤ ((x1 * 96) + x2) ∧ ((x1 * 96) + x2) < 9216
            · rw [if_pos c7] at H
              rw [zp_iastore (n := 119) (K := zx_pk (zK L) 119) (q := 57) (m := 9216) (i := ((x1 * 96) + x2)) (k := ((x1 * 96) + x2).toNatClampNeg) (x := x3) (z := x3) zd_165_53 rfl ⟨by decide, by decide⟩ (zJ_in c7 rfl) rfl rfl]
              have H := Option.some.inj H
              subst H
              exact zs_return zd_165_54 (by decide +kernel)
            · rw [if_neg c7] at H
              cases H
        · rw [if_neg c5] at H
          cases H
set_option maxRecDepth 20000 in
theorem zt_Findings_noteRaces_83 {a b L N : Nat} {k17 : zS → Int32 → Int32 → Int32 → Option (zS)} (hk17 : ∀ {σ : zS} {τ : zT} {v1 : Int32} {v2 : Int32} {v3 : Int32} {r : zS}, k17 σ v1 v2 v3 = some r → zx_go 2 164 17 [some (.ref 46), some (.int v1), some (.int v2), some (.int v3)] [] ((119, a, b), zx_pk (zK L) 119, σ, τ, zR) = some (none, ((119, a, b), zx_pk (zK L) 119, r, τ, zR))) {σ : zS} {τ : zT} {v1 : Int32} {v2 : Int32} {v3 : Int32} {r : zS} (H : zb_Findings_noteRaces_83 k17 N σ v1 v2 v3 = some r) : zx_go 2 164 83 [some (.ref 46), some (.int v1), some (.int v2), some (.int v3)] [] ((119, a, b), zx_pk (zK L) 119, σ, τ, zR) = some (none, ((119, a, b), zx_pk (zK L) 119, r, τ, zR)) := by
  unfold zb_Findings_noteRaces_83 at H
  rw [zs_iinc (ls := [some (.ref 46), some (.int v1), some (.int v2), some (.int v3)]) (x := v3) (z := (v3 + 1)) (ls' := [some (.ref 46), some (.int v1), some (.int v2), some (.int (v3 + 1))]) zd_164_83 rfl rfl rfl]
  rw [zs_goto (t := 17) zd_164_86 rfl]
  exact hk17 H
set_option maxRecDepth 20000 in
theorem zt_Findings_noteRaces_17 {a b L N : Nat} {k2 : zS → Int32 → Int32 → Option (zS)} (hk2 : ∀ {σ : zS} {τ : zT} {v1 : Int32} {v2 : Int32} {o3 : Option Value} {r : zS}, k2 σ v1 v2 = some r → zx_go 2 164 2 [some (.ref 46), some (.int v1), some (.int v2), o3] [] ((119, a, b), zx_pk (zK L) 119, σ, τ, zR) = some (none, ((119, a, b), zx_pk (zK L) 119, r, τ, zR))) : ∀ {n : Nat} {σ : zS} {τ : zT} {v1 : Int32} {v2 : Int32} {v3 : Int32} {r : zS}, zb_Findings_noteRaces_17 k2 N n σ v1 v2 v3 = some r → zx_go 2 164 17 [some (.ref 46), some (.int v1), some (.int v2), some (.int v3)] [] ((119, a, b), zx_pk (zK L) 119, σ, τ, zR) = some (none, ((119, a, b), zx_pk (zK L) 119, r, τ, zR)) := by
  intro n
  induction n with
  | zero =>
    intro _ _ _ _ _ _ H
    cases H
  | succ n ih =>
    intro σ τ v1 v2 v3 r H
    rw [zb_Findings_noteRaces_17] at H
    rw [zs_iload_n (ls := [some (.ref 46), some (.int v1), some (.int v2), some (.int v3)]) zd_164_17 rfl]
    rw [zs_aload_n (ls := [some (.ref 46), some (.int v1), some (.int v2), some (.int v3)]) zd_164_18 rfl]
    rw [zs_getR (n := 119) (K := zx_pk (zK L) 119) (ρ := zR) (c := 0) (k := 0) (q := 46) (p := 4) zd_164_19 rfl rfl rfl (by decide) rfl]
    rw [zp_getI (n := 119) (K := zx_pk (zK L) 119) (σ := σ) (c := 6) (k := 2) (q := 4) (v := (σ 4 2)) zd_164_22 rfl rfl rfl (by decide) rfl]
    by_cases c2 : (σ 4 2) ≤ v3
    · rw [if_pos c2] at H
      rw [zp_icmp_ge_t (x := v3) (y := (σ 4 2)) (t := 89) zd_164_25 rfl c2]
      rw [zs_iinc (ls := [some (.ref 46), some (.int v1), some (.int v2), some (.int v3)]) (x := v2) (z := (v2 + 1)) (ls' := [some (.ref 46), some (.int v1), some (.int (v2 + 1)), some (.int v3)]) zd_164_89 rfl rfl rfl]
      rw [zs_goto (t := 2) zd_164_92 rfl]
      exact hk2 H
    · rw [if_neg c2] at H
      rw [zp_icmp_ge_f (x := v3) (y := (σ 4 2)) (t := 89) zd_164_25 rfl c2]
      rw [zs_aload_n (ls := [some (.ref 46), some (.int v1), some (.int v2), some (.int v3)]) zd_164_28 rfl]
      rw [zs_getR (n := 119) (K := zx_pk (zK L) 119) (ρ := zR) (c := 0) (k := 1) (q := 46) (p := 35) zd_164_29 rfl rfl rfl (by decide) rfl]
      rw [zs_iload_n (ls := [some (.ref 46), some (.int v1), some (.int v2), some (.int v3)]) zd_164_32 rfl]
      obtain ⟨r3, hr3, H⟩ := Option.bind_eq_some_iff.mp H
      rw [zp_callVi (x := r3) (st := [.int v2, .ref 35]) (as := [.ref 35, .int v2]) (rest := []) (e := 0) zd_164_33 rfl (by decide +kernel) (by decide) rfl rfl (Nat.le_of_ble_eq_true rfl) (zx_rcb_ok rfl (show 35 < 119 by decide)) (Nat.le_of_ble_eq_true rfl) rfl (by decide) (zt_Machine_howOf hr3)]
      rw [zs_iconst (z := 1) zd_164_36 (by decide)]
      by_cases c4 : ¬ r3 = 1
      · rw [if_pos c4] at H
        rw [zp_icmp_ne_t (x := r3) (y := 1) (t := 83) zd_164_37 rfl c4]
        exact zt_Findings_noteRaces_83 (hk17 := ih) H
      · rw [if_neg c4] at H
        rw [zp_icmp_ne_f (x := r3) (y := 1) (t := 83) zd_164_37 rfl c4]
        rw [zs_aload_n (ls := [some (.ref 46), some (.int v1), some (.int v2), some (.int v3)]) zd_164_40 rfl]
        rw [zs_getR (n := 119) (K := zx_pk (zK L) 119) (ρ := zR) (c := 0) (k := 1) (q := 46) (p := 35) zd_164_41 rfl rfl rfl (by decide) rfl]
        rw [zs_iload_n (ls := [some (.ref 46), some (.int v1), some (.int v2), some (.int v3)]) zd_164_44 rfl]
        obtain ⟨r5, hr5, H⟩ := Option.bind_eq_some_iff.mp H
        rw [zp_callVi (x := r5) (st := [.int v3, .ref 35]) (as := [.ref 35, .int v3]) (rest := []) (e := 0) zd_164_45 rfl (by decide +kernel) (by decide) rfl rfl (Nat.le_of_ble_eq_true rfl) (zx_rcb_ok rfl (show 35 < 119 by decide)) (Nat.le_of_ble_eq_true rfl) rfl (by decide) (zt_Machine_howOf hr5)]
        rw [zs_iconst (z := 1) zd_164_48 (by decide)]
        by_cases c6 : ¬ r5 = 1
        · rw [if_pos c6] at H
          rw [zp_icmp_ne_t (x := r5) (y := 1) (t := 83) zd_164_49 rfl c6]
          exact zt_Findings_noteRaces_83 (hk17 := ih) H
        · rw [if_neg c6] at H
          rw [zp_icmp_ne_f (x := r5) (y := 1) (t := 83) zd_164_49 rfl c6]
          rw [zs_aload_n (ls := [some (.ref 46), some (.int v1), some (.int v2), some (.int v3)]) zd_164_52 rfl]
          rw [zs_iload_n (ls := [some (.ref 46), some (.int v1), some (.int v2), some (.int v3)]) zd_164_53 rfl]
          rw [zs_bipush (z := 24) zd_164_54 (by decide)]
          rw [zp_imul (x := v2) (y := 24) (z := (v2 * 24)) zd_164_56 rfl]
          rw [zs_aload_n (ls := [some (.ref 46), some (.int v1), some (.int v2), some (.int v3)]) zd_164_57 rfl]
          rw [zs_getR (n := 119) (K := zx_pk (zK L) 119) (ρ := zR) (c := 0) (k := 1) (q := 46) (p := 35) zd_164_58 rfl rfl rfl (by decide) rfl]
          rw [zs_iload_n (ls := [some (.ref 46), some (.int v1), some (.int v2), some (.int v3)]) zd_164_61 rfl]
          obtain ⟨r7, hr7, H⟩ := Option.bind_eq_some_iff.mp H
          rw [zp_callVi (x := r7) (st := [.int v2, .ref 35, .int (v2 * 24), .ref 46]) (as := [.ref 35, .int v2]) (rest := [.int (v2 * 24), .ref 46]) (e := 1) zd_164_62 rfl (by decide +kernel) (by decide) rfl rfl (Nat.le_of_ble_eq_true rfl) (zx_rcb_ok rfl (show 35 < 119 by decide)) (Nat.le_of_ble_eq_true rfl) rfl (by decide) (zt_Machine_stepOf hr7)]
          rw [zp_iadd (x := (v2 * 24)) (y := r7) (z := ((v2 * 24) + r7)) zd_164_65 rfl]
          rw [zs_iload_n (ls := [some (.ref 46), some (.int v1), some (.int v2), some (.int v3)]) zd_164_66 rfl]
          rw [zs_bipush (z := 24) zd_164_67 (by decide)]
          rw [zp_imul (x := v3) (y := 24) (z := (v3 * 24)) zd_164_69 rfl]
          rw [zs_aload_n (ls := [some (.ref 46), some (.int v1), some (.int v2), some (.int v3)]) zd_164_70 rfl]
          rw [zs_getR (n := 119) (K := zx_pk (zK L) 119) (ρ := zR) (c := 0) (k := 1) (q := 46) (p := 35) zd_164_71 rfl rfl rfl (by decide) rfl]
          rw [zs_iload_n (ls := [some (.ref 46), some (.int v1), some (.int v2), some (.int v3)]) zd_164_74 rfl]
          obtain ⟨r8, hr8, H⟩ := Option.bind_eq_some_iff.mp H
          rw [zp_callVi (x := r8) (st := [.int v3, .ref 35, .int (v3 * 24), .int ((v2 * 24) + r7), .ref 46]) (as := [.ref 35, .int v3]) (rest := [.int (v3 * 24), .int ((v2 * 24) + r7), .ref 46]) (e := 1) zd_164_75 rfl (by decide +kernel) (by decide) rfl rfl (Nat.le_of_ble_eq_true rfl) (zx_rcb_ok rfl (show 35 < 119 by decide)) (Nat.le_of_ble_eq_true rfl) rfl (by decide) (zt_Machine_stepOf hr8)]
          rw [zp_iadd (x := (v3 * 24)) (y := r8) (z := ((v3 * 24) + r8)) zd_164_78 rfl]
          rw [zs_iload_n (ls := [some (.ref 46), some (.int v1), some (.int v2), some (.int v3)]) zd_164_79 rfl]
          obtain ⟨r9, hr9, H⟩ := Option.bind_eq_some_iff.mp H
          rw [zp_callVv (st := [.int v1, .int ((v3 * 24) + r8), .int ((v2 * 24) + r7), .ref 46]) (as := [.ref 46, .int ((v2 * 24) + r7), .int ((v3 * 24) + r8), .int v1]) (rest := []) (e := 1) zd_164_80 rfl (by decide +kernel) (by decide) rfl rfl (Nat.le_of_ble_eq_true rfl) (zx_rcb_ok rfl (show 46 < 119 by decide)) (Nat.le_of_ble_eq_true rfl) rfl (by decide) (zt_Findings_noteRace hr9)]
          exact zt_Findings_noteRaces_83 (hk17 := ih) H
set_option maxRecDepth 20000 in
theorem zt_Findings_noteRaces_2 {a b L N : Nat} : ∀ {n : Nat} {σ : zS} {τ : zT} {v1 : Int32} {v2 : Int32} {o3 : Option Value} {r : zS}, zb_Findings_noteRaces_2 N n σ v1 v2 = some r → zx_go 2 164 2 [some (.ref 46), some (.int v1), some (.int v2), o3] [] ((119, a, b), zx_pk (zK L) 119, σ, τ, zR) = some (none, ((119, a, b), zx_pk (zK L) 119, r, τ, zR)) := by
  intro n
  induction n with
  | zero =>
    intro _ _ _ _ _ _ H
    cases H
  | succ n ih =>
    intro σ τ v1 v2 o3 r H
    rw [zb_Findings_noteRaces_2] at H
    rw [zs_iload_n (ls := [some (.ref 46), some (.int v1), some (.int v2), o3]) zd_164_2 rfl]
    rw [zs_aload_n (ls := [some (.ref 46), some (.int v1), some (.int v2), o3]) zd_164_3 rfl]
    rw [zs_getR (n := 119) (K := zx_pk (zK L) 119) (ρ := zR) (c := 0) (k := 0) (q := 46) (p := 4) zd_164_4 rfl rfl rfl (by decide) rfl]
    rw [zp_getI (n := 119) (K := zx_pk (zK L) 119) (σ := σ) (c := 6) (k := 2) (q := 4) (v := (σ 4 2)) zd_164_7 rfl rfl rfl (by decide) rfl]
    by_cases c1 : (σ 4 2) ≤ v2
    · rw [if_pos c1] at H
      rw [zp_icmp_ge_t (x := v2) (y := (σ 4 2)) (t := 95) zd_164_10 rfl c1]
      have H := Option.some.inj H
      subst H
      exact zs_return zd_164_95 (by decide +kernel)
    · rw [if_neg c1] at H
      rw [zp_icmp_ge_f (x := v2) (y := (σ 4 2)) (t := 95) zd_164_10 rfl c1]
      rw [zs_iload_n (ls := [some (.ref 46), some (.int v1), some (.int v2), o3]) zd_164_13 rfl]
      rw [zs_iconst (z := 1) zd_164_14 (by decide)]
      rw [zp_iadd (x := v2) (y := 1) (z := (v2 + 1)) zd_164_15 rfl]
      rw [zs_istore_n (x := (v2 + 1)) (ls' := [some (.ref 46), some (.int v1), some (.int v2), some (.int (v2 + 1))]) zd_164_16 (Nat.le_of_ble_eq_true rfl) rfl]
      exact zt_Findings_noteRaces_17 (hk2 := ih) H
set_option maxRecDepth 20000 in
theorem zt_Findings_noteRaces {a b L N : Nat} {σ : zS} {τ : zT} {x1 : Int32} {r : zS} (H : zf_Findings_noteRaces N σ x1 = some r) : zx_go 2 164 0 [some (.ref 46), some (.int x1), none, none] [] ((119, a, b), zx_pk (zK L) 119, σ, τ, zR) = some (none, ((119, a, b), zx_pk (zK L) 119, r, τ, zR)) := by
  unfold zf_Findings_noteRaces at H
  rw [zs_iconst (z := 0) zd_164_0 (by decide)]
  rw [zs_istore_n (x := 0) (ls' := [some (.ref 46), some (.int x1), some (.int 0), none]) zd_164_1 (Nat.le_of_ble_eq_true rfl) rfl]
  exact zt_Findings_noteRaces_2  H
set_option maxRecDepth 20000 in
theorem zt_Numbers_add_c4 {a b L : Nat} {σ : zS} {τ : zT} {x1 : Int32} {r : zS} (H : zf_Numbers_add_c4 σ x1 = some r) : zx_go 0 160 0 [some (.ref 49), some (.int x1)] [] ((119, a, b), zx_pk (zK L) 119, σ, τ, zR) = some (none, ((119, a, b), zx_pk (zK L) 119, r, τ, zR)) := by
  unfold zf_Numbers_add_c4 at H
  rw [zs_aload_n (ls := [some (.ref 49), some (.int x1)]) zd_160_0 rfl]
  rw [zp_getI (n := 119) (K := zx_pk (zK L) 119) (σ := σ) (c := 4) (k := 1) (q := 49) (v := (σ 49 1)) zd_160_1 rfl rfl rfl (by decide) rfl]
  by_cases c1 : (σ 49 1) < 0
  · rw [if_pos c1] at H
    rw [zp_if_lt_t (x := (σ 49 1)) (t := 39) zd_160_4 rfl c1]
    have H := Option.some.inj H
    subst H
    exact zs_return zd_160_39 (by decide +kernel)
  · rw [if_neg c1] at H
    rw [zp_if_lt_f (x := (σ 49 1)) (t := 39) zd_160_4 rfl c1]
    rw [zs_aload_n (ls := [some (.ref 49), some (.int x1)]) zd_160_7 rfl]
    rw [zp_getI (n := 119) (K := zx_pk (zK L) 119) (σ := σ) (c := 4) (k := 1) (q := 49) (v := (σ 49 1)) zd_160_8 rfl rfl rfl (by decide) rfl]
    rw [zs_aload_n (ls := [some (.ref 49), some (.int x1)]) zd_160_11 rfl]
    rw [zs_getR (n := 119) (K := zx_pk (zK L) 119) (ρ := zR) (c := 4) (k := 0) (q := 49) (p := 50) zd_160_12 rfl rfl rfl (by decide) rfl]
    rw [zs_arraylength (n := 119) (K := zx_pk (zK L) 119) (q := 50) (m := 4000) (z := 4000) zd_160_15 rfl (by decide) (by decide)]
    by_cases c2 : 4000 ≤ (σ 49 1)
    · rw [if_pos c2] at H
      rw [zp_icmp_ge_t (x := (σ 49 1)) (y := 4000) (t := 39) zd_160_16 rfl c2]
      have H := Option.some.inj H
      subst H
      exact zs_return zd_160_39 (by decide +kernel)
    · rw [if_neg c2] at H
      rw [zp_icmp_ge_f (x := (σ 49 1)) (y := 4000) (t := 39) zd_160_16 rfl c2]
      rw [zs_aload_n (ls := [some (.ref 49), some (.int x1)]) zd_160_19 rfl]
      rw [zs_getR (n := 119) (K := zx_pk (zK L) 119) (ρ := zR) (c := 4) (k := 0) (q := 49) (p := 50) zd_160_20 rfl rfl rfl (by decide) rfl]
      rw [zs_aload_n (ls := [some (.ref 49), some (.int x1)]) zd_160_23 rfl]
      rw [zp_getI (n := 119) (K := zx_pk (zK L) 119) (σ := σ) (c := 4) (k := 1) (q := 49) (v := (σ 49 1)) zd_160_24 rfl rfl rfl (by decide) rfl]
      rw [zs_iload_n (ls := [some (.ref 49), some (.int x1)]) zd_160_27 rfl]
      by_cases c3 : 0 ≤ (σ 49 1) ∧ (σ 49 1) < 4000
      · rw [if_pos c3] at H
        rw [zp_iastore (n := 119) (K := zx_pk (zK L) 119) (q := 50) (m := 4000) (i := (σ 49 1)) (k := (σ 49 1).toNatClampNeg) (x := x1) (z := x1) zd_160_28 rfl ⟨by decide, by decide⟩ (zJ_in c3 rfl) rfl rfl]
        rw [zs_aload_n (ls := [some (.ref 49), some (.int x1)]) zd_160_29 rfl]
        rw [zs_dup (a := .ref 49) zd_160_30 rfl]
        rw [zp_getI (n := 119) (K := zx_pk (zK L) 119) (σ := (zx_up σ 50 (σ 49 1).toNatClampNeg x1)) (c := 4) (k := 1) (q := 49) (v := (σ 49 1)) zd_160_31 rfl rfl rfl (by decide) (show ((zx_up σ 50 (σ 49 1).toNatClampNeg x1) : zS) 49 1 = (σ 49 1) from ((zx_up_ne (by decide)).trans rfl))]
        rw [zs_iconst (z := 1) zd_160_34 (by decide)]
        rw [zp_iadd (x := (σ 49 1)) (y := 1) (z := ((σ 49 1) + 1)) zd_160_35 rfl]
        rw [zs_putI (n := 119) (K := zx_pk (zK L) 119) (c := 4) (k := 1) (q := 49) (x := ((σ 49 1) + 1)) zd_160_36 rfl rfl (by decide +kernel) rfl (by decide)]
        have H := Option.some.inj H
        subst H
        exact zs_return zd_160_39 (by decide +kernel)
      · rw [if_neg c3] at H
        cases H
set_option maxRecDepth 20000 in
theorem zt_Numbers_add_c5 {a b L : Nat} {σ : zS} {τ : zT} {x1 : Int32} {r : zS} (H : zf_Numbers_add_c5 σ x1 = some r) : zx_go 0 160 0 [some (.ref 47), some (.int x1)] [] ((119, a, b), zx_pk (zK L) 119, σ, τ, zR) = some (none, ((119, a, b), zx_pk (zK L) 119, r, τ, zR)) := by
  unfold zf_Numbers_add_c5 at H
  rw [zs_aload_n (ls := [some (.ref 47), some (.int x1)]) zd_160_0 rfl]
  rw [zp_getI (n := 119) (K := zx_pk (zK L) 119) (σ := σ) (c := 4) (k := 1) (q := 47) (v := (σ 47 1)) zd_160_1 rfl rfl rfl (by decide) rfl]
  by_cases c1 : (σ 47 1) < 0
  · rw [if_pos c1] at H
    rw [zp_if_lt_t (x := (σ 47 1)) (t := 39) zd_160_4 rfl c1]
    have H := Option.some.inj H
    subst H
    exact zs_return zd_160_39 (by decide +kernel)
  · rw [if_neg c1] at H
    rw [zp_if_lt_f (x := (σ 47 1)) (t := 39) zd_160_4 rfl c1]
    rw [zs_aload_n (ls := [some (.ref 47), some (.int x1)]) zd_160_7 rfl]
    rw [zp_getI (n := 119) (K := zx_pk (zK L) 119) (σ := σ) (c := 4) (k := 1) (q := 47) (v := (σ 47 1)) zd_160_8 rfl rfl rfl (by decide) rfl]
    rw [zs_aload_n (ls := [some (.ref 47), some (.int x1)]) zd_160_11 rfl]
    rw [zs_getR (n := 119) (K := zx_pk (zK L) 119) (ρ := zR) (c := 4) (k := 0) (q := 47) (p := 48) zd_160_12 rfl rfl rfl (by decide) rfl]
    rw [zs_arraylength (n := 119) (K := zx_pk (zK L) 119) (q := 48) (m := 4000) (z := 4000) zd_160_15 rfl (by decide) (by decide)]
    by_cases c2 : 4000 ≤ (σ 47 1)
    · rw [if_pos c2] at H
      rw [zp_icmp_ge_t (x := (σ 47 1)) (y := 4000) (t := 39) zd_160_16 rfl c2]
      have H := Option.some.inj H
      subst H
      exact zs_return zd_160_39 (by decide +kernel)
    · rw [if_neg c2] at H
      rw [zp_icmp_ge_f (x := (σ 47 1)) (y := 4000) (t := 39) zd_160_16 rfl c2]
      rw [zs_aload_n (ls := [some (.ref 47), some (.int x1)]) zd_160_19 rfl]
      rw [zs_getR (n := 119) (K := zx_pk (zK L) 119) (ρ := zR) (c := 4) (k := 0) (q := 47) (p := 48) zd_160_20 rfl rfl rfl (by decide) rfl]
      rw [zs_aload_n (ls := [some (.ref 47), some (.int x1)]) zd_160_23 rfl]
      rw [zp_getI (n := 119) (K := zx_pk (zK L) 119) (σ := σ) (c := 4) (k := 1) (q := 47) (v := (σ 47 1)) zd_160_24 rfl rfl rfl (by decide) rfl]
      rw [zs_iload_n (ls := [some (.ref 47), some (.int x1)]) zd_160_27 rfl]
      by_cases c3 : 0 ≤ (σ 47 1) ∧ (σ 47 1) < 4000
      · rw [if_pos c3] at H
        rw [zp_iastore (n := 119) (K := zx_pk (zK L) 119) (q := 48) (m := 4000) (i := (σ 47 1)) (k := (σ 47 1).toNatClampNeg) (x := x1) (z := x1) zd_160_28 rfl ⟨by decide, by decide⟩ (zJ_in c3 rfl) rfl rfl]
        rw [zs_aload_n (ls := [some (.ref 47), some (.int x1)]) zd_160_29 rfl]
        rw [zs_dup (a := .ref 47) zd_160_30 rfl]
        rw [zp_getI (n := 119) (K := zx_pk (zK L) 119) (σ := (zx_up σ 48 (σ 47 1).toNatClampNeg x1)) (c := 4) (k := 1) (q := 47) (v := (σ 47 1)) zd_160_31 rfl rfl rfl (by decide) (show ((zx_up σ 48 (σ 47 1).toNatClampNeg x1) : zS) 47 1 = (σ 47 1) from ((zx_up_ne (by decide)).trans rfl))]
        rw [zs_iconst (z := 1) zd_160_34 (by decide)]
        rw [zp_iadd (x := (σ 47 1)) (y := 1) (z := ((σ 47 1) + 1)) zd_160_35 rfl]
        rw [zs_putI (n := 119) (K := zx_pk (zK L) 119) (c := 4) (k := 1) (q := 47) (x := ((σ 47 1) + 1)) zd_160_36 rfl rfl (by decide +kernel) rfl (by decide)]
        have H := Option.some.inj H
        subst H
        exact zs_return zd_160_39 (by decide +kernel)
      · rw [if_neg c3] at H
        cases H
set_option maxRecDepth 20000 in
theorem zt_Numbers_add_c6 {a b L : Nat} {σ : zS} {τ : zT} {x1 : Int32} {r : zS} (H : zf_Numbers_add_c6 σ x1 = some r) : zx_go 0 160 0 [some (.ref 51), some (.int x1)] [] ((119, a, b), zx_pk (zK L) 119, σ, τ, zR) = some (none, ((119, a, b), zx_pk (zK L) 119, r, τ, zR)) := by
  unfold zf_Numbers_add_c6 at H
  rw [zs_aload_n (ls := [some (.ref 51), some (.int x1)]) zd_160_0 rfl]
  rw [zp_getI (n := 119) (K := zx_pk (zK L) 119) (σ := σ) (c := 4) (k := 1) (q := 51) (v := (σ 51 1)) zd_160_1 rfl rfl rfl (by decide) rfl]
  by_cases c1 : (σ 51 1) < 0
  · rw [if_pos c1] at H
    rw [zp_if_lt_t (x := (σ 51 1)) (t := 39) zd_160_4 rfl c1]
    have H := Option.some.inj H
    subst H
    exact zs_return zd_160_39 (by decide +kernel)
  · rw [if_neg c1] at H
    rw [zp_if_lt_f (x := (σ 51 1)) (t := 39) zd_160_4 rfl c1]
    rw [zs_aload_n (ls := [some (.ref 51), some (.int x1)]) zd_160_7 rfl]
    rw [zp_getI (n := 119) (K := zx_pk (zK L) 119) (σ := σ) (c := 4) (k := 1) (q := 51) (v := (σ 51 1)) zd_160_8 rfl rfl rfl (by decide) rfl]
    rw [zs_aload_n (ls := [some (.ref 51), some (.int x1)]) zd_160_11 rfl]
    rw [zs_getR (n := 119) (K := zx_pk (zK L) 119) (ρ := zR) (c := 4) (k := 0) (q := 51) (p := 52) zd_160_12 rfl rfl rfl (by decide) rfl]
    rw [zs_arraylength (n := 119) (K := zx_pk (zK L) 119) (q := 52) (m := 4000) (z := 4000) zd_160_15 rfl (by decide) (by decide)]
    by_cases c2 : 4000 ≤ (σ 51 1)
    · rw [if_pos c2] at H
      rw [zp_icmp_ge_t (x := (σ 51 1)) (y := 4000) (t := 39) zd_160_16 rfl c2]
      have H := Option.some.inj H
      subst H
      exact zs_return zd_160_39 (by decide +kernel)
    · rw [if_neg c2] at H
      rw [zp_icmp_ge_f (x := (σ 51 1)) (y := 4000) (t := 39) zd_160_16 rfl c2]
      rw [zs_aload_n (ls := [some (.ref 51), some (.int x1)]) zd_160_19 rfl]
      rw [zs_getR (n := 119) (K := zx_pk (zK L) 119) (ρ := zR) (c := 4) (k := 0) (q := 51) (p := 52) zd_160_20 rfl rfl rfl (by decide) rfl]
      rw [zs_aload_n (ls := [some (.ref 51), some (.int x1)]) zd_160_23 rfl]
      rw [zp_getI (n := 119) (K := zx_pk (zK L) 119) (σ := σ) (c := 4) (k := 1) (q := 51) (v := (σ 51 1)) zd_160_24 rfl rfl rfl (by decide) rfl]
      rw [zs_iload_n (ls := [some (.ref 51), some (.int x1)]) zd_160_27 rfl]
      by_cases c3 : 0 ≤ (σ 51 1) ∧ (σ 51 1) < 4000
      · rw [if_pos c3] at H
        rw [zp_iastore (n := 119) (K := zx_pk (zK L) 119) (q := 52) (m := 4000) (i := (σ 51 1)) (k := (σ 51 1).toNatClampNeg) (x := x1) (z := x1) zd_160_28 rfl ⟨by decide, by decide⟩ (zJ_in c3 rfl) rfl rfl]
        rw [zs_aload_n (ls := [some (.ref 51), some (.int x1)]) zd_160_29 rfl]
        rw [zs_dup (a := .ref 51) zd_160_30 rfl]
        rw [zp_getI (n := 119) (K := zx_pk (zK L) 119) (σ := (zx_up σ 52 (σ 51 1).toNatClampNeg x1)) (c := 4) (k := 1) (q := 51) (v := (σ 51 1)) zd_160_31 rfl rfl rfl (by decide) (show ((zx_up σ 52 (σ 51 1).toNatClampNeg x1) : zS) 51 1 = (σ 51 1) from ((zx_up_ne (by decide)).trans rfl))]
        rw [zs_iconst (z := 1) zd_160_34 (by decide)]
        rw [zp_iadd (x := (σ 51 1)) (y := 1) (z := ((σ 51 1) + 1)) zd_160_35 rfl]
        rw [zs_putI (n := 119) (K := zx_pk (zK L) 119) (c := 4) (k := 1) (q := 51) (x := ((σ 51 1) + 1)) zd_160_36 rfl rfl (by decide +kernel) rfl (by decide)]
        have H := Option.some.inj H
        subst H
        exact zs_return zd_160_39 (by decide +kernel)
      · rw [if_neg c3] at H
        cases H
set_option maxRecDepth 20000 in
theorem zt_Findings_gather_97 {a b L N : Nat} {k31 : zS → Int32 → Option (zS)} (hk31 : ∀ {σ : zS} {τ : zT} {v2 : Int32} {o3 : Option Value} {r : zS}, k31 σ v2 = some r → zx_go 5 157 31 [some (.ref 46), some (.ref 41), some (.int v2), o3] [] ((119, a, b), zx_pk (zK L) 119, σ, τ, zR) = some (none, ((119, a, b), zx_pk (zK L) 119, r, τ, zR))) {σ : zS} {τ : zT} {v2 : Int32} {o3 : Option Value} {r : zS} (H : zb_Findings_gather_97 k31 N σ v2 = some r) : zx_go 5 157 97 [some (.ref 46), some (.ref 41), some (.int v2), o3] [] ((119, a, b), zx_pk (zK L) 119, σ, τ, zR) = some (none, ((119, a, b), zx_pk (zK L) 119, r, τ, zR)) := by
  unfold zb_Findings_gather_97 at H
  rw [zs_aload_n (ls := [some (.ref 46), some (.ref 41), some (.int v2), o3]) zd_157_97 rfl]
  rw [zs_iload_n (ls := [some (.ref 46), some (.ref 41), some (.int v2), o3]) zd_157_98 rfl]
  obtain ⟨r13, hr13, H⟩ := Option.bind_eq_some_iff.mp H
  rw [zp_callVv (st := [.int v2, .ref 46]) (as := [.ref 46, .int v2]) (rest := []) (e := 2) zd_157_99 rfl (by decide +kernel) (by decide) rfl rfl (Nat.le_of_ble_eq_true rfl) (zx_rcb_ok rfl (show 46 < 119 by decide)) (Nat.le_of_ble_eq_true rfl) rfl (by decide) (zt_Findings_noteRaces hr13)]
  rw [zs_iinc (ls := [some (.ref 46), some (.ref 41), some (.int v2), o3]) (x := v2) (z := (v2 + 1)) (ls' := [some (.ref 46), some (.ref 41), some (.int (v2 + 1)), o3]) zd_157_102 rfl rfl rfl]
  rw [zs_goto (t := 31) zd_157_105 rfl]
  exact hk31 H
set_option maxRecDepth 20000 in
theorem zt_Findings_gather_91_1 {a b L N : Nat} {k31 : zS → Int32 → Option (zS)} (hk31 : ∀ {σ : zS} {τ : zT} {v2 : Int32} {o3 : Option Value} {r : zS}, k31 σ v2 = some r → zx_go 5 157 31 [some (.ref 46), some (.ref 41), some (.int v2), o3] [] ((119, a, b), zx_pk (zK L) 119, σ, τ, zR) = some (none, ((119, a, b), zx_pk (zK L) 119, r, τ, zR))) {σ : zS} {τ : zT} {v2 : Int32} {o3 : Option Value} {r : zS} (H : zb_Findings_gather_91_1 k31 N σ v2 = some r) : zx_go 5 157 91 [some (.ref 46), some (.ref 41), some (.int v2), o3] [.ref 47] ((119, a, b), zx_pk (zK L) 119, σ, τ, zR) = some (none, ((119, a, b), zx_pk (zK L) 119, r, τ, zR)) := by
  unfold zb_Findings_gather_91_1 at H
  rw [zs_astore_n (x := 47) (ls' := [some (.ref 46), some (.ref 41), some (.int v2), some (.ref 47)]) zd_157_91 (Nat.le_of_ble_eq_true rfl) rfl]
  rw [zs_aload_n (ls := [some (.ref 46), some (.ref 41), some (.int v2), some (.ref 47)]) zd_157_92 rfl]
  rw [zs_iload_n (ls := [some (.ref 46), some (.ref 41), some (.int v2), some (.ref 47)]) zd_157_93 rfl]
  obtain ⟨r17, hr17, H⟩ := Option.bind_eq_some_iff.mp H
  rw [zp_callVv (st := [.int v2, .ref 47]) (as := [.ref 47, .int v2]) (rest := []) (e := 0) zd_157_94 rfl (by decide +kernel) (by decide) rfl rfl (Nat.le_of_ble_eq_true rfl) (zx_rcb_ok rfl (show 47 < 119 by decide)) (Nat.le_of_ble_eq_true rfl) rfl (by decide) (zt_Numbers_add_c5 hr17)]
  exact zt_Findings_gather_97 (hk31 := hk31) H
set_option maxRecDepth 20000 in
theorem zt_Findings_gather_91 {a b L N : Nat} {k31 : zS → Int32 → Option (zS)} (hk31 : ∀ {σ : zS} {τ : zT} {v2 : Int32} {o3 : Option Value} {r : zS}, k31 σ v2 = some r → zx_go 5 157 31 [some (.ref 46), some (.ref 41), some (.int v2), o3] [] ((119, a, b), zx_pk (zK L) 119, σ, τ, zR) = some (none, ((119, a, b), zx_pk (zK L) 119, r, τ, zR))) {σ : zS} {τ : zT} {v2 : Int32} {o3 : Option Value} {r : zS} (H : zb_Findings_gather_91 k31 N σ v2 = some r) : zx_go 5 157 91 [some (.ref 46), some (.ref 41), some (.int v2), o3] [.ref 49] ((119, a, b), zx_pk (zK L) 119, σ, τ, zR) = some (none, ((119, a, b), zx_pk (zK L) 119, r, τ, zR)) := by
  unfold zb_Findings_gather_91 at H
  rw [zs_astore_n (x := 49) (ls' := [some (.ref 46), some (.ref 41), some (.int v2), some (.ref 49)]) zd_157_91 (Nat.le_of_ble_eq_true rfl) rfl]
  rw [zs_aload_n (ls := [some (.ref 46), some (.ref 41), some (.int v2), some (.ref 49)]) zd_157_92 rfl]
  rw [zs_iload_n (ls := [some (.ref 46), some (.ref 41), some (.int v2), some (.ref 49)]) zd_157_93 rfl]
  obtain ⟨r16, hr16, H⟩ := Option.bind_eq_some_iff.mp H
  rw [zp_callVv (st := [.int v2, .ref 49]) (as := [.ref 49, .int v2]) (rest := []) (e := 0) zd_157_94 rfl (by decide +kernel) (by decide) rfl rfl (Nat.le_of_ble_eq_true rfl) (zx_rcb_ok rfl (show 49 < 119 by decide)) (Nat.le_of_ble_eq_true rfl) rfl (by decide) (zt_Numbers_add_c4 hr16)]
  exact zt_Findings_gather_97 (hk31 := hk31) H
set_option maxRecDepth 20000 in
theorem zt_Findings_gather_62 {a b L N : Nat} {k31 : zS → Int32 → Option (zS)} (hk31 : ∀ {σ : zS} {τ : zT} {v2 : Int32} {o3 : Option Value} {r : zS}, k31 σ v2 = some r → zx_go 5 157 31 [some (.ref 46), some (.ref 41), some (.int v2), o3] [] ((119, a, b), zx_pk (zK L) 119, σ, τ, zR) = some (none, ((119, a, b), zx_pk (zK L) 119, r, τ, zR))) {σ : zS} {τ : zT} {v2 : Int32} {o3 : Option Value} {r : zS} (H : zb_Findings_gather_62 k31 N σ v2 = some r) : zx_go 5 157 62 [some (.ref 46), some (.ref 41), some (.int v2), o3] [] ((119, a, b), zx_pk (zK L) 119, σ, τ, zR) = some (none, ((119, a, b), zx_pk (zK L) 119, r, τ, zR)) := by
  unfold zb_Findings_gather_62 at H
  rw [zs_aload_n (ls := [some (.ref 46), some (.ref 41), some (.int v2), o3]) zd_157_62 rfl]
  rw [zs_iload_n (ls := [some (.ref 46), some (.ref 41), some (.int v2), o3]) zd_157_63 rfl]
  obtain ⟨r11, hr11, H⟩ := Option.bind_eq_some_iff.mp H
  rw [zp_callVi (x := r11) (st := [.int v2, .ref 41]) (as := [.ref 41, .int v2]) (rest := []) (e := 1) zd_157_64 rfl (by decide +kernel) (by decide) rfl rfl (Nat.le_of_ble_eq_true rfl) (zx_rcb_ok rfl (show 41 < 119 by decide)) (Nat.le_of_ble_eq_true rfl) rfl (by decide) (zt_Space_isLast hr11)]
  by_cases c12 : r11 = 0
  · rw [if_pos c12] at H
    rw [zp_if_eq_t (x := r11) (t := 97) zd_157_67 rfl c12]
    exact zt_Findings_gather_97 (hk31 := hk31) H
  · rw [if_neg c12] at H
    rw [zp_if_eq_f (x := r11) (t := 97) zd_157_67 rfl c12]
    rw [zs_aload_n (ls := [some (.ref 46), some (.ref 41), some (.int v2), o3]) zd_157_70 rfl]
    rw [zs_getR (n := 119) (K := zx_pk (zK L) 119) (ρ := zR) (c := 0) (k := 1) (q := 46) (p := 35) zd_157_71 rfl rfl rfl (by decide) rfl]
    obtain ⟨r14, hr14, H⟩ := Option.bind_eq_some_iff.mp H
    rw [zp_callVi (x := r14) (st := [.ref 35]) (as := [.ref 35]) (rest := []) (e := 2) zd_157_74 rfl (by decide +kernel) (by decide) rfl rfl (Nat.le_of_ble_eq_true rfl) (zx_rcb_ok rfl (show 35 < 119 by decide)) (Nat.le_of_ble_eq_true rfl) rfl (by decide) (zt_Machine_isOver hr14)]
    by_cases c15 : r14 = 0
    · rw [if_pos c15] at H
      rw [zp_if_eq_t (x := r14) (t := 87) zd_157_77 rfl c15]
      rw [zs_aload_n (ls := [some (.ref 46), some (.ref 41), some (.int v2), o3]) zd_157_87 rfl]
      rw [zs_getR (n := 119) (K := zx_pk (zK L) 119) (ρ := zR) (c := 0) (k := 3) (q := 46) (p := 49) zd_157_88 rfl rfl rfl (by decide) rfl]
      exact zt_Findings_gather_91 (hk31 := hk31) H
    · rw [if_neg c15] at H
      rw [zp_if_eq_f (x := r14) (t := 87) zd_157_77 rfl c15]
      rw [zs_aload_n (ls := [some (.ref 46), some (.ref 41), some (.int v2), o3]) zd_157_80 rfl]
      rw [zs_getR (n := 119) (K := zx_pk (zK L) 119) (ρ := zR) (c := 0) (k := 2) (q := 46) (p := 47) zd_157_81 rfl rfl rfl (by decide) rfl]
      rw [zs_goto (t := 91) zd_157_84 rfl]
      exact zt_Findings_gather_91_1 (hk31 := hk31) H
set_option maxRecDepth 20000 in
theorem zt_Findings_gather_31 {a b L N : Nat} : ∀ {n : Nat} {σ : zS} {τ : zT} {v2 : Int32} {o3 : Option Value} {r : zS}, zb_Findings_gather_31 N n σ v2 = some r → zx_go 5 157 31 [some (.ref 46), some (.ref 41), some (.int v2), o3] [] ((119, a, b), zx_pk (zK L) 119, σ, τ, zR) = some (none, ((119, a, b), zx_pk (zK L) 119, r, τ, zR)) := by
  intro n
  induction n with
  | zero =>
    intro _ _ _ _ _ H
    cases H
  | succ n ih =>
    intro σ τ v2 o3 r H
    rw [zb_Findings_gather_31] at H
    rw [zs_iload_n (ls := [some (.ref 46), some (.ref 41), some (.int v2), o3]) zd_157_31 rfl]
    rw [zs_aload_n (ls := [some (.ref 46), some (.ref 41), some (.int v2), o3]) zd_157_32 rfl]
    rw [zp_getI (n := 119) (K := zx_pk (zK L) 119) (σ := σ) (c := 8) (k := 6) (q := 41) (v := (σ 41 6)) zd_157_33 rfl rfl rfl (by decide) rfl]
    by_cases c5 : (σ 41 6) ≤ v2
    · rw [if_pos c5] at H
      rw [zp_icmp_ge_t (x := v2) (y := (σ 41 6)) (t := 108) zd_157_36 rfl c5]
      rw [zs_aload_n (ls := [some (.ref 46), some (.ref 41), some (.int v2), o3]) zd_157_108 rfl]
      obtain ⟨r6, hr6, H⟩ := Option.bind_eq_some_iff.mp H
      rw [zp_callVv (st := [.ref 46]) (as := [.ref 46]) (rest := []) (e := 1) zd_157_109 rfl (by decide +kernel) (by decide) rfl rfl (Nat.le_of_ble_eq_true rfl) (zx_rcb_ok rfl (show 46 < 119 by decide)) (Nat.le_of_ble_eq_true rfl) rfl (by decide) (zt_Findings_listRaces hr6)]
      rw [zs_aload_n (ls := [some (.ref 46), some (.ref 41), some (.int v2), o3]) zd_157_112 rfl]
      rw [zs_getR (n := 119) (K := zx_pk (zK L) 119) (ρ := zR) (c := 0) (k := 7) (q := 46) (p := 58) zd_157_113 rfl rfl rfl (by decide) rfl]
      rw [zs_aload_n (ls := [some (.ref 46), some (.ref 41), some (.int v2), o3]) zd_157_116 rfl]
      obtain ⟨r7, hr7, H⟩ := Option.bind_eq_some_iff.mp H
      rw [zp_callVv (st := [.ref 41, .ref 58]) (as := [.ref 58, .ref 41]) (rest := []) (e := 4) zd_157_117 rfl (by decide +kernel) (by decide) rfl rfl (Nat.le_of_ble_eq_true rfl) (zx_rcb_ok rfl (show 58 < 119 by decide)) (Nat.le_of_ble_eq_true rfl) rfl (by decide) (zt_Outcomes_gather hr7)]
      have H := Option.some.inj H
      subst H
      exact zs_return zd_157_120 (by decide +kernel)
    · rw [if_neg c5] at H
      rw [zp_icmp_ge_f (x := v2) (y := (σ 41 6)) (t := 108) zd_157_36 rfl c5]
      rw [zs_aload_n (ls := [some (.ref 46), some (.ref 41), some (.int v2), o3]) zd_157_39 rfl]
      rw [zs_iload_n (ls := [some (.ref 46), some (.ref 41), some (.int v2), o3]) zd_157_40 rfl]
      obtain ⟨r8, hr8, H⟩ := Option.bind_eq_some_iff.mp H
      rw [zp_callVv (st := [.int v2, .ref 41]) (as := [.ref 41, .int v2]) (rest := []) (e := 3) zd_157_41 rfl (by decide +kernel) (by decide) rfl rfl (Nat.le_of_ble_eq_true rfl) (zx_rcb_ok rfl (show 41 < 119 by decide)) (Nat.le_of_ble_eq_true rfl) rfl (by decide) (zt_Space_load hr8)]
      rw [zs_aload_n (ls := [some (.ref 46), some (.ref 41), some (.int v2), o3]) zd_157_44 rfl]
      rw [zs_getR (n := 119) (K := zx_pk (zK L) 119) (ρ := zR) (c := 0) (k := 1) (q := 46) (p := 35) zd_157_45 rfl rfl rfl (by decide) rfl]
      obtain ⟨r9, hr9, H⟩ := Option.bind_eq_some_iff.mp H
      rw [zp_callVi (x := r9) (st := [.ref 35]) (as := [.ref 35]) (rest := []) (e := 1) zd_157_48 rfl (by decide +kernel) (by decide) rfl rfl (Nat.le_of_ble_eq_true rfl) (zx_rcb_ok rfl (show 35 < 119 by decide)) (Nat.le_of_ble_eq_true rfl) rfl (by decide) (zt_Machine_failed hr9)]
      by_cases c10 : r9 = 0
      · rw [if_pos c10] at H
        rw [zp_if_eq_t (x := r9) (t := 62) zd_157_51 rfl c10]
        exact zt_Findings_gather_62 (hk31 := ih) H
      · rw [if_neg c10] at H
        rw [zp_if_eq_f (x := r9) (t := 62) zd_157_51 rfl c10]
        rw [zs_aload_n (ls := [some (.ref 46), some (.ref 41), some (.int v2), o3]) zd_157_54 rfl]
        rw [zs_getR (n := 119) (K := zx_pk (zK L) 119) (ρ := zR) (c := 0) (k := 4) (q := 46) (p := 51) zd_157_55 rfl rfl rfl (by decide) rfl]
        rw [zs_iload_n (ls := [some (.ref 46), some (.ref 41), some (.int v2), o3]) zd_157_58 rfl]
        obtain ⟨r18, hr18, H⟩ := Option.bind_eq_some_iff.mp H
        rw [zp_callVv (st := [.int v2, .ref 51]) (as := [.ref 51, .int v2]) (rest := []) (e := 0) zd_157_59 rfl (by decide +kernel) (by decide) rfl rfl (Nat.le_of_ble_eq_true rfl) (zx_rcb_ok rfl (show 51 < 119 by decide)) (Nat.le_of_ble_eq_true rfl) rfl (by decide) (zt_Numbers_add_c6 hr18)]
        exact zt_Findings_gather_62 (hk31 := ih) H
set_option maxRecDepth 20000 in
theorem zt_Findings_gather {a b L N : Nat} {σ : zS} {τ : zT} {r : zS} (H : zf_Findings_gather N σ = some r) : zx_go 5 157 0 [some (.ref 46), some (.ref 41), none, none] [] ((119, a, b), zx_pk (zK L) 119, σ, τ, zR) = some (none, ((119, a, b), zx_pk (zK L) 119, r, τ, zR)) := by
  unfold zf_Findings_gather at H
  rw [zs_aload_n (ls := [some (.ref 46), some (.ref 41), none, none]) zd_157_0 rfl]
  rw [zs_getR (n := 119) (K := zx_pk (zK L) 119) (ρ := zR) (c := 0) (k := 2) (q := 46) (p := 47) zd_157_1 rfl rfl rfl (by decide) rfl]
  obtain ⟨r1, hr1, H⟩ := Option.bind_eq_some_iff.mp H
  rw [zp_callVv (st := [.ref 47]) (as := [.ref 47]) (rest := []) (e := 0) zd_157_4 rfl (by decide +kernel) (by decide) rfl rfl (Nat.le_of_ble_eq_true rfl) (zx_rcb_ok rfl (show 47 < 119 by decide)) (Nat.le_of_ble_eq_true rfl) rfl (by decide) (zt_Numbers_clear hr1)]
  rw [zs_aload_n (ls := [some (.ref 46), some (.ref 41), none, none]) zd_157_7 rfl]
  rw [zs_getR (n := 119) (K := zx_pk (zK L) 119) (ρ := zR) (c := 0) (k := 3) (q := 46) (p := 49) zd_157_8 rfl rfl rfl (by decide) rfl]
  obtain ⟨r2, hr2, H⟩ := Option.bind_eq_some_iff.mp H
  rw [zp_callVv (st := [.ref 49]) (as := [.ref 49]) (rest := []) (e := 0) zd_157_11 rfl (by decide +kernel) (by decide) rfl rfl (Nat.le_of_ble_eq_true rfl) (zx_rcb_ok rfl (show 49 < 119 by decide)) (Nat.le_of_ble_eq_true rfl) rfl (by decide) (zt_Numbers_clear_c1 hr2)]
  rw [zs_aload_n (ls := [some (.ref 46), some (.ref 41), none, none]) zd_157_14 rfl]
  rw [zs_getR (n := 119) (K := zx_pk (zK L) 119) (ρ := zR) (c := 0) (k := 4) (q := 46) (p := 51) zd_157_15 rfl rfl rfl (by decide) rfl]
  obtain ⟨r3, hr3, H⟩ := Option.bind_eq_some_iff.mp H
  rw [zp_callVv (st := [.ref 51]) (as := [.ref 51]) (rest := []) (e := 0) zd_157_18 rfl (by decide +kernel) (by decide) rfl rfl (Nat.le_of_ble_eq_true rfl) (zx_rcb_ok rfl (show 51 < 119 by decide)) (Nat.le_of_ble_eq_true rfl) rfl (by decide) (zt_Numbers_clear_c2 hr3)]
  rw [zs_aload_n (ls := [some (.ref 46), some (.ref 41), none, none]) zd_157_21 rfl]
  rw [zs_getR (n := 119) (K := zx_pk (zK L) 119) (ρ := zR) (c := 0) (k := 8) (q := 46) (p := 57) zd_157_22 rfl rfl rfl (by decide) rfl]
  rw [zs_iconst (z := (-1)) zd_157_25 (by decide)]
  obtain ⟨r4, hr4, H⟩ := Option.bind_eq_some_iff.mp H
  rw [zp_callSv (st := [.int (-1), .ref 57]) (as := [.ref 57, .int (-1)]) (rest := []) (e := 0) zd_157_26 rfl (by decide +kernel) (by decide) rfl rfl (Nat.le_of_ble_eq_true rfl) rfl (Nat.le_of_ble_eq_true rfl) rfl (by decide) (zt_Arrays_fill_c5 hr4)]
  rw [zs_iconst (z := 0) zd_157_29 (by decide)]
  rw [zs_istore_n (x := 0) (ls' := [some (.ref 46), some (.ref 41), some (.int 0), none]) zd_157_30 (Nat.le_of_ble_eq_true rfl) rfl]
  exact zt_Findings_gather_31  H
set_option maxRecDepth 20000 in
theorem zt_X_run_57 {a b L N : Nat} {σ : zS} {τ : zT} {r : Int32 × zS} (H : zb_X_run_57 N σ = some r) : zx_go 6 128 57 [some (.ref 2)] [] ((119, a, b), zx_pk (zK L) 119, σ, τ, zR) = some (some (.int r.1), ((119, a, b), zx_pk (zK L) 119, r.2, τ, zR)) := by
  unfold zb_X_run_57 at H
  rw [zs_aload_n (ls := [some (.ref 2)]) zd_128_57 rfl]
  rw [zp_getZ (n := 119) (K := zx_pk (zK L) 119) (σ := σ) (c := 11) (k := 15) (q := 2) (v := (σ 2 15)) zd_128_58 rfl rfl rfl (by decide) rfl]
  by_cases c3 : (σ 2 15) = 0
  · rw [if_pos c3] at H
    rw [zp_if_eq_t (x := (σ 2 15)) (t := 74) zd_128_61 rfl c3]
    rw [zs_bipush (z := (-103)) zd_128_74 (by decide)]
    have H := Option.some.inj H
    subst H
    exact zs_ireturn zd_128_76 (by decide +kernel)
  · rw [if_neg c3] at H
    rw [zp_if_eq_f (x := (σ 2 15)) (t := 74) zd_128_61 rfl c3]
    rw [zs_aload_n (ls := [some (.ref 2)]) zd_128_64 rfl]
    rw [zs_getR (n := 119) (K := zx_pk (zK L) 119) (ρ := zR) (c := 11) (k := 4) (q := 2) (p := 41) zd_128_65 rfl rfl rfl (by decide) rfl]
    rw [zp_getI (n := 119) (K := zx_pk (zK L) 119) (σ := σ) (c := 8) (k := 6) (q := 41) (v := (σ 41 6)) zd_128_68 rfl rfl rfl (by decide) rfl]
    rw [zs_goto (t := 76) zd_128_71 rfl]
    have H := Option.some.inj H
    subst H
    exact zs_ireturn zd_128_76 rfl
set_option maxRecDepth 20000 in
theorem zt_X_run {a b L N : Nat} {σ : zS} {τ : zT} {r : Int32 × zS} (H : zf_X_run N σ = some r) : zx_go 6 128 0 [some (.ref 2)] [] ((119, a, b), zx_pk (zK L) 119, σ, τ, zR) = some (some (.int r.1), ((119, a, b), zx_pk (zK L) 119, r.2, τ, zR)) := by
  unfold zf_X_run at H
  rw [zs_aload_n (ls := [some (.ref 2)]) zd_128_0 rfl]
  rw [zp_getZ (n := 119) (K := zx_pk (zK L) 119) (σ := σ) (c := 11) (k := 13) (q := 2) (v := (σ 2 13)) zd_128_1 rfl rfl rfl (by decide) rfl]
  by_cases c1 : ¬ (σ 2 13) = 0
  · rw [if_pos c1] at H
    rw [zp_if_ne_t (x := (σ 2 13)) (t := 10) zd_128_4 rfl c1]
    rw [zs_aload_n (ls := [some (.ref 2)]) zd_128_10 rfl]
    rw [zs_iconst (z := (-1)) zd_128_11 (by decide)]
    rw [zs_putI (n := 119) (K := zx_pk (zK L) 119) (c := 11) (k := 16) (q := 2) (x := (-1)) zd_128_12 rfl rfl (by decide +kernel) rfl (by decide)]
    rw [zs_aload_n (ls := [some (.ref 2)]) zd_128_15 rfl]
    rw [zp_getZ (n := 119) (K := zx_pk (zK L) 119) (σ := (zx_up σ 2 16 (-1))) (c := 11) (k := 14) (q := 2) (v := (σ 2 14)) zd_128_16 rfl rfl rfl (by decide) (show ((zx_up σ 2 16 (-1)) : zS) 2 14 = (σ 2 14) from ((zx_up_nj (by decide)).trans rfl))]
    by_cases c2 : ¬ (σ 2 14) = 0
    · rw [if_pos c2] at H
      rw [zp_if_ne_t (x := (σ 2 14)) (t := 57) zd_128_19 rfl c2]
      exact zt_X_run_57  H
    · rw [if_neg c2] at H
      rw [zp_if_ne_f (x := (σ 2 14)) (t := 57) zd_128_19 rfl c2]
      rw [zs_aload_n (ls := [some (.ref 2)]) zd_128_22 rfl]
      rw [zs_iconst (z := 1) zd_128_23 (by decide)]
      rw [zs_putZ (n := 119) (K := zx_pk (zK L) 119) (c := 11) (k := 14) (q := 2) (x := 1) zd_128_24 rfl rfl (by decide +kernel) rfl (by decide) rfl]
      rw [zs_aload_n (ls := [some (.ref 2)]) zd_128_27 rfl]
      rw [zs_aload_n (ls := [some (.ref 2)]) zd_128_28 rfl]
      rw [zs_getR (n := 119) (K := zx_pk (zK L) 119) (ρ := zR) (c := 11) (k := 4) (q := 2) (p := 41) zd_128_29 rfl rfl rfl (by decide) rfl]
      rw [zs_iconst (z := (-1)) zd_128_32 (by decide)]
      obtain ⟨r4, hr4, H⟩ := Option.bind_eq_some_iff.mp H
      rw [zp_callVi (x := r4.1) (st := [.int (-1), .ref 41, .ref 2]) (as := [.ref 41, .int (-1)]) (rest := [.ref 2]) (e := 5) zd_128_33 rfl (by decide +kernel) (by decide) rfl rfl (Nat.le_of_ble_eq_true rfl) (zx_rcb_ok rfl (show 41 < 119 by decide)) (Nat.le_of_ble_eq_true rfl) rfl (by decide) (zt_Space_explore hr4)]
      by_cases c5 : r4.1 = 0 ∨ r4.1 = 1
      · rw [if_pos c5] at H
        rw [zs_putZ (n := 119) (K := zx_pk (zK L) 119) (c := 11) (k := 15) (q := 2) (x := r4.1) zd_128_36 rfl rfl (by decide +kernel) rfl (by decide) (zJ_bt c5)]
        rw [zs_aload_n (ls := [some (.ref 2)]) zd_128_39 rfl]
        rw [zp_getZ (n := 119) (K := zx_pk (zK L) 119) (σ := (zx_up r4.2 2 15 r4.1)) (c := 11) (k := 15) (q := 2) (v := r4.1) zd_128_40 rfl rfl rfl (by decide) (show ((zx_up r4.2 2 15 r4.1) : zS) 2 15 = r4.1 from zx_up_at)]
        by_cases c6 : r4.1 = 0
        · rw [if_pos c6] at H
          rw [zp_if_eq_t (x := r4.1) (t := 57) zd_128_43 rfl c6]
          exact zt_X_run_57  H
        · rw [if_neg c6] at H
          rw [zp_if_eq_f (x := r4.1) (t := 57) zd_128_43 rfl c6]
          rw [zs_aload_n (ls := [some (.ref 2)]) zd_128_46 rfl]
          rw [zs_getR (n := 119) (K := zx_pk (zK L) 119) (ρ := zR) (c := 11) (k := 5) (q := 2) (p := 46) zd_128_47 rfl rfl rfl (by decide) rfl]
          rw [zs_aload_n (ls := [some (.ref 2)]) zd_128_50 rfl]
          rw [zs_getR (n := 119) (K := zx_pk (zK L) 119) (ρ := zR) (c := 11) (k := 4) (q := 2) (p := 41) zd_128_51 rfl rfl rfl (by decide) rfl]
          obtain ⟨r7, hr7, H⟩ := Option.bind_eq_some_iff.mp H
          rw [zp_callVv (st := [.ref 41, .ref 46]) (as := [.ref 46, .ref 41]) (rest := []) (e := 5) zd_128_54 rfl (by decide +kernel) (by decide) rfl rfl (Nat.le_of_ble_eq_true rfl) (zx_rcb_ok rfl (show 46 < 119 by decide)) (Nat.le_of_ble_eq_true rfl) rfl (by decide) (zt_Findings_gather hr7)]
          exact zt_X_run_57  H
      · rw [if_neg c5] at H
        cases H
  · rw [if_neg c1] at H
    rw [zp_if_ne_f (x := (σ 2 13)) (t := 10) zd_128_4 rfl c1]
    rw [zs_bipush (z := (-101)) zd_128_7 (by decide)]
    have H := Option.some.inj H
    subst H
    exact zs_ireturn zd_128_9 (by decide +kernel)
set_option maxRecDepth 20000 in
theorem zt_M_forget_2 {a b L N : Nat} : ∀ {n : Nat} {σ : zS} {τ : zT} {v1 : Int32} {v2 : Int32} {r : zS}, zb_M_forget_2 N n σ v1 v2 = some r → zx_go 0 174 2 [some (.ref 82), some (.int v1), some (.int v2)] [] ((119, a, b), zx_pk (zK L) 119, σ, τ, zR) = some (none, ((119, a, b), zx_pk (zK L) 119, r, τ, zR)) := by
  intro n
  induction n with
  | zero =>
    intro _ _ _ _ _ H
    cases H
  | succ n ih =>
    intro σ τ v1 v2 r H
    rw [zb_M_forget_2] at H
    rw [zs_iload_n (ls := [some (.ref 82), some (.int v1), some (.int v2)]) zd_174_2 rfl]
    rw [zs_sipush (z := 8192) zd_174_3 (by decide)]
    by_cases c1 : 8192 ≤ v2
    · rw [if_pos c1] at H
      rw [zp_icmp_ge_t (x := v2) (y := 8192) (t := 22) zd_174_6 rfl c1]
      rw [zs_aload_n (ls := [some (.ref 82), some (.int v1), some (.int v2)]) zd_174_22 rfl]
      rw [zs_iload_n (ls := [some (.ref 82), some (.int v1), some (.int v2)]) zd_174_23 rfl]
      rw [zs_putI (n := 119) (K := zx_pk (zK L) 119) (c := 12) (k := 51) (q := 82) (x := v1) zd_174_24 rfl rfl (by decide +kernel) rfl (by decide)]
      rw [zs_aload_n (ls := [some (.ref 82), some (.int v1), some (.int v2)]) zd_174_27 rfl]
      rw [zs_iconst (z := 0) zd_174_28 (by decide)]
      rw [zs_putI (n := 119) (K := zx_pk (zK L) 119) (c := 12) (k := 52) (q := 82) (x := 0) zd_174_29 rfl rfl (by decide +kernel) rfl (by decide)]
      have H := Option.some.inj H
      subst H
      exact zs_return zd_174_32 (by decide +kernel)
    · rw [if_neg c1] at H
      rw [zp_icmp_ge_f (x := v2) (y := 8192) (t := 22) zd_174_6 rfl c1]
      rw [zs_aload_n (ls := [some (.ref 82), some (.int v1), some (.int v2)]) zd_174_9 rfl]
      rw [zs_getR (n := 119) (K := zx_pk (zK L) 119) (ρ := zR) (c := 12) (k := 49) (q := 82) (p := 109) zd_174_10 rfl rfl rfl (by decide) rfl]
      rw [zs_iload_n (ls := [some (.ref 82), some (.int v1), some (.int v2)]) zd_174_13 rfl]
      rw [zs_iconst (z := (-1)) zd_174_14 (by decide)]
      by_cases c2 : 0 ≤ v2 ∧ v2 < 8192
      · rw [if_pos c2] at H
        rw [zp_iastore (n := 119) (K := zx_pk (zK L) 119) (q := 109) (m := 8192) (i := v2) (k := v2.toNatClampNeg) (x := (-1)) (z := (-1)) zd_174_15 rfl ⟨by decide, by decide⟩ (zJ_in c2 rfl) rfl rfl]
        rw [zs_iinc (ls := [some (.ref 82), some (.int v1), some (.int v2)]) (x := v2) (z := (v2 + 1)) (ls' := [some (.ref 82), some (.int v1), some (.int (v2 + 1))]) zd_174_16 rfl rfl rfl]
        rw [zs_goto (t := 2) zd_174_19 rfl]
        exact ih H
      · rw [if_neg c2] at H
        cases H
set_option maxRecDepth 20000 in
theorem zt_M_forget {a b L N : Nat} {σ : zS} {τ : zT} {x1 : Int32} {r : zS} (H : zf_M_forget N σ x1 = some r) : zx_go 0 174 0 [some (.ref 82), some (.int x1), none] [] ((119, a, b), zx_pk (zK L) 119, σ, τ, zR) = some (none, ((119, a, b), zx_pk (zK L) 119, r, τ, zR)) := by
  unfold zf_M_forget at H
  rw [zs_iconst (z := 0) zd_174_0 (by decide)]
  rw [zs_istore_n (x := 0) (ls' := [some (.ref 82), some (.int x1), some (.int 0)]) zd_174_1 (Nat.le_of_ble_eq_true rfl) rfl]
  exact zt_M_forget_2  H
set_option maxRecDepth 20000 in
theorem zt_M_at {a b L : Nat} {σ : zS} {τ : zT} {x1 : Int32} {r : Int32} (H : zf_M_at σ x1 = some r) : zx_go 0 177 0 [some (.ref 82), some (.int x1)] [] ((119, a, b), zx_pk (zK L) 119, σ, τ, zR) = some (some (.int r), ((119, a, b), zx_pk (zK L) 119, σ, τ, zR)) := by
  unfold zf_M_at at H
  rw [zs_bipush (z := 14) zd_177_0 (by decide)]
  rw [zs_bipush (z := 6) zd_177_2 (by decide)]
  rw [zs_iload_n (ls := [some (.ref 82), some (.int x1)]) zd_177_4 rfl]
  rw [zp_imul (x := 6) (y := x1) (z := (6 * x1)) zd_177_5 rfl]
  rw [zp_iadd (x := 14) (y := (6 * x1)) (z := (14 + (6 * x1))) zd_177_6 rfl]
  have H := Option.some.inj H
  subst H
  exact zs_ireturn zd_177_7 rfl
set_option maxRecDepth 20000 in
theorem zt_M_letGo_42 {a b L N : Nat} {k2 : zS → Int32 → Int32 → Option (zS)} (hk2 : ∀ {σ : zS} {τ : zT} {v1 : Int32} {v2 : Int32} {r : zS}, k2 σ v1 v2 = some r → zx_go 0 179 2 [some (.ref 82), some (.int v1), some (.int v2)] [] ((119, a, b), zx_pk (zK L) 119, σ, τ, zR) = some (none, ((119, a, b), zx_pk (zK L) 119, r, τ, zR))) {σ : zS} {τ : zT} {v1 : Int32} {v2 : Int32} {r : zS} (H : zb_M_letGo_42 k2 N σ v1 v2 = some r) : zx_go 0 179 42 [some (.ref 82), some (.int v1), some (.int v2)] [] ((119, a, b), zx_pk (zK L) 119, σ, τ, zR) = some (none, ((119, a, b), zx_pk (zK L) 119, r, τ, zR)) := by
  unfold zb_M_letGo_42 at H
  rw [zs_iinc (ls := [some (.ref 82), some (.int v1), some (.int v2)]) (x := v2) (z := (v2 + 1)) (ls' := [some (.ref 82), some (.int v1), some (.int (v2 + 1))]) zd_179_42 rfl rfl rfl]
  rw [zs_goto (t := 2) zd_179_45 rfl]
  exact hk2 H
set_option maxRecDepth 20000 in
theorem zt_M_letGo_2 {a b L N : Nat} : ∀ {n : Nat} {σ : zS} {τ : zT} {v1 : Int32} {v2 : Int32} {r : zS}, zb_M_letGo_2 N n σ v1 v2 = some r → zx_go 0 179 2 [some (.ref 82), some (.int v1), some (.int v2)] [] ((119, a, b), zx_pk (zK L) 119, σ, τ, zR) = some (none, ((119, a, b), zx_pk (zK L) 119, r, τ, zR)) := by
  intro n
  induction n with
  | zero =>
    intro _ _ _ _ _ H
    cases H
  | succ n ih =>
    intro σ τ v1 v2 r H
    rw [zb_M_letGo_2] at H
    rw [zs_iload_n (ls := [some (.ref 82), some (.int v1), some (.int v2)]) zd_179_2 rfl]
    rw [zs_iconst (z := 4) zd_179_3 (by decide)]
    by_cases c1 : 4 ≤ v2
    · rw [if_pos c1] at H
      rw [zp_icmp_ge_t (x := v2) (y := 4) (t := 48) zd_179_4 rfl c1]
      have H := Option.some.inj H
      subst H
      exact zs_return zd_179_48 (by decide +kernel)
    · rw [if_neg c1] at H
      rw [zp_icmp_ge_f (x := v2) (y := 4) (t := 48) zd_179_4 rfl c1]
      rw [zs_aload_n (ls := [some (.ref 82), some (.int v1), some (.int v2)]) zd_179_7 rfl]
      rw [zs_getR (n := 119) (K := zx_pk (zK L) 119) (ρ := zR) (c := 12) (k := 47) (q := 82) (p := 107) zd_179_8 rfl rfl rfl (by decide) rfl]
      rw [zs_bipush (z := 6) zd_179_11 (by decide)]
      rw [zs_iload_n (ls := [some (.ref 82), some (.int v1), some (.int v2)]) zd_179_13 rfl]
      rw [zp_iadd (x := 6) (y := v2) (z := (6 + v2)) zd_179_14 rfl]
      by_cases c2 : 0 ≤ (6 + v2) ∧ (6 + v2) < 40
      · rw [if_pos c2] at H
        rw [zp_iaload (n := 119) (K := zx_pk (zK L) 119) (σ := σ) (q := 107) (m := 40) (i := (6 + v2)) (k := (6 + v2).toNatClampNeg) (v := (σ 107 (6 + v2).toNatClampNeg)) zd_179_15 rfl (by decide) (zJ_in c2 rfl) rfl rfl]
        rw [zs_iload_n (ls := [some (.ref 82), some (.int v1), some (.int v2)]) zd_179_16 rfl]
        rw [zs_iconst (z := 1) zd_179_17 (by decide)]
        rw [zp_iadd (x := v1) (y := 1) (z := (v1 + 1)) zd_179_18 rfl]
        by_cases c3 : ¬ (σ 107 (6 + v2).toNatClampNeg) = (v1 + 1)
        · rw [if_pos c3] at H
          rw [zp_icmp_ne_t (x := (σ 107 (6 + v2).toNatClampNeg)) (y := (v1 + 1)) (t := 42) zd_179_19 rfl c3]
          exact zt_M_letGo_42 (hk2 := ih) H
        · rw [if_neg c3] at H
          rw [zp_icmp_ne_f (x := (σ 107 (6 + v2).toNatClampNeg)) (y := (v1 + 1)) (t := 42) zd_179_19 rfl c3]
          rw [zs_aload_n (ls := [some (.ref 82), some (.int v1), some (.int v2)]) zd_179_22 rfl]
          rw [zs_getR (n := 119) (K := zx_pk (zK L) 119) (ρ := zR) (c := 12) (k := 47) (q := 82) (p := 107) zd_179_23 rfl rfl rfl (by decide) rfl]
          rw [zs_bipush (z := 6) zd_179_26 (by decide)]
          rw [zs_iload_n (ls := [some (.ref 82), some (.int v1), some (.int v2)]) zd_179_28 rfl]
          rw [zp_iadd (x := 6) (y := v2) (z := (6 + v2)) zd_179_29 rfl]
          rw [zs_iconst (z := 0) zd_179_30 (by decide)]
          by_cases c4 : 0 ≤ (6 + v2) ∧ (6 + v2) < 40
          · rw [if_pos c4] at H
            rw [zp_iastore (n := 119) (K := zx_pk (zK L) 119) (q := 107) (m := 40) (i := (6 + v2)) (k := (6 + v2).toNatClampNeg) (x := 0) (z := 0) zd_179_31 rfl ⟨by decide, by decide⟩ (zJ_in c4 rfl) rfl rfl]
            rw [zs_aload_n (ls := [some (.ref 82), some (.int v1), some (.int v2)]) zd_179_32 rfl]
            rw [zs_getR (n := 119) (K := zx_pk (zK L) 119) (ρ := zR) (c := 12) (k := 47) (q := 82) (p := 107) zd_179_33 rfl rfl rfl (by decide) rfl]
            rw [zs_bipush (z := 10) zd_179_36 (by decide)]
            rw [zs_iload_n (ls := [some (.ref 82), some (.int v1), some (.int v2)]) zd_179_38 rfl]
            rw [zp_iadd (x := 10) (y := v2) (z := (10 + v2)) zd_179_39 rfl]
            rw [zs_iconst (z := 0) zd_179_40 (by decide)]
            by_cases c5 : 0 ≤ (10 + v2) ∧ (10 + v2) < 40
            · rw [if_pos c5] at H
              rw [zp_iastore (n := 119) (K := zx_pk (zK L) 119) (q := 107) (m := 40) (i := (10 + v2)) (k := (10 + v2).toNatClampNeg) (x := 0) (z := 0) zd_179_41 rfl ⟨by decide, by decide⟩ (zJ_in c5 rfl) rfl rfl]
              exact zt_M_letGo_42 (hk2 := ih) H
            · rw [if_neg c5] at H
              cases H
          · rw [if_neg c4] at H
            cases H
      · rw [if_neg c2] at H
        cases H
set_option maxRecDepth 20000 in
theorem zt_M_letGo {a b L N : Nat} {σ : zS} {τ : zT} {x1 : Int32} {r : zS} (H : zf_M_letGo N σ x1 = some r) : zx_go 0 179 0 [some (.ref 82), some (.int x1), none] [] ((119, a, b), zx_pk (zK L) 119, σ, τ, zR) = some (none, ((119, a, b), zx_pk (zK L) 119, r, τ, zR)) := by
  unfold zf_M_letGo at H
  rw [zs_iconst (z := 0) zd_179_0 (by decide)]
  rw [zs_istore_n (x := 0) (ls' := [some (.ref 82), some (.int x1), some (.int 0)]) zd_179_1 (Nat.le_of_ble_eq_true rfl) rfl]
  exact zt_M_letGo_2  H
set_option maxRecDepth 20000 in
theorem zt_M_goTo {a b L N : Nat} {σ : zS} {τ : zT} {x1 : Int32} {x2 : Int32} {r : zS} (H : zf_M_goTo N σ x1 x2 = some r) : zx_go 1 178 0 [some (.ref 82), some (.int x1), some (.int x2)] [] ((119, a, b), zx_pk (zK L) 119, σ, τ, zR) = some (none, ((119, a, b), zx_pk (zK L) 119, r, τ, zR)) := by
  unfold zf_M_goTo at H
  rw [zs_aload_n (ls := [some (.ref 82), some (.int x1), some (.int x2)]) zd_178_0 rfl]
  rw [zs_getR (n := 119) (K := zx_pk (zK L) 119) (ρ := zR) (c := 12) (k := 47) (q := 82) (p := 107) zd_178_1 rfl rfl rfl (by decide) rfl]
  rw [zs_aload_n (ls := [some (.ref 82), some (.int x1), some (.int x2)]) zd_178_4 rfl]
  rw [zs_iload_n (ls := [some (.ref 82), some (.int x1), some (.int x2)]) zd_178_5 rfl]
  obtain ⟨r1, hr1, H⟩ := Option.bind_eq_some_iff.mp H
  rw [zp_callVi (x := r1) (st := [.int x1, .ref 82, .ref 107]) (as := [.ref 82, .int x1]) (rest := [.ref 107]) (e := 0) zd_178_6 rfl (by decide +kernel) (by decide) rfl rfl (Nat.le_of_ble_eq_true rfl) (zx_rcb_ok rfl (show 82 < 119 by decide)) (Nat.le_of_ble_eq_true rfl) rfl (by decide) (zt_M_at hr1)]
  rw [zs_iload_n (ls := [some (.ref 82), some (.int x1), some (.int x2)]) zd_178_9 rfl]
  by_cases c2 : 0 ≤ r1 ∧ r1 < 40
  · rw [if_pos c2] at H
    rw [zp_iastore (n := 119) (K := zx_pk (zK L) 119) (q := 107) (m := 40) (i := r1) (k := r1.toNatClampNeg) (x := x2) (z := x2) zd_178_10 rfl ⟨by decide, by decide⟩ (zJ_in c2 rfl) rfl rfl]
    rw [zs_iload_n (ls := [some (.ref 82), some (.int x1), some (.int x2)]) zd_178_11 rfl]
    rw [zs_aload_n (ls := [some (.ref 82), some (.int x1), some (.int x2)]) zd_178_12 rfl]
    rw [zs_getR (n := 119) (K := zx_pk (zK L) 119) (ρ := zR) (c := 12) (k := 24) (q := 82) (p := 90) zd_178_13 rfl rfl rfl (by decide) rfl]
    rw [zs_iload_n (ls := [some (.ref 82), some (.int x1), some (.int x2)]) zd_178_16 rfl]
    by_cases c3 : 0 ≤ x1 ∧ x1 < 4
    · rw [if_pos c3] at H
      rw [zp_iaload (n := 119) (K := zx_pk (zK L) 119) (σ := (zx_up σ 107 r1.toNatClampNeg x2)) (q := 90) (m := 4) (i := x1) (k := x1.toNatClampNeg) (v := (σ 90 x1.toNatClampNeg)) zd_178_17 rfl (by decide) (zJ_in c3 rfl) rfl (show ((zx_up σ 107 r1.toNatClampNeg x2) : zS) 90 x1.toNatClampNeg = (σ 90 x1.toNatClampNeg) from ((zx_up_ne (by decide)).trans rfl))]
      by_cases c4 : ¬ x2 = (σ 90 x1.toNatClampNeg)
      · rw [if_pos c4] at H
        rw [zp_icmp_ne_t (x := x2) (y := (σ 90 x1.toNatClampNeg)) (t := 39) zd_178_18 rfl c4]
        have H := Option.some.inj H
        subst H
        exact zs_return zd_178_39 (by decide +kernel)
      · rw [if_neg c4] at H
        rw [zp_icmp_ne_f (x := x2) (y := (σ 90 x1.toNatClampNeg)) (t := 39) zd_178_18 rfl c4]
        rw [zs_aload_n (ls := [some (.ref 82), some (.int x1), some (.int x2)]) zd_178_21 rfl]
        rw [zs_getR (n := 119) (K := zx_pk (zK L) 119) (ρ := zR) (c := 12) (k := 47) (q := 82) (p := 107) zd_178_22 rfl rfl rfl (by decide) rfl]
        rw [zs_aload_n (ls := [some (.ref 82), some (.int x1), some (.int x2)]) zd_178_25 rfl]
        rw [zs_iload_n (ls := [some (.ref 82), some (.int x1), some (.int x2)]) zd_178_26 rfl]
        obtain ⟨r5, hr5, H⟩ := Option.bind_eq_some_iff.mp H
        rw [zp_callVi (x := r5) (st := [.int x1, .ref 82, .ref 107]) (as := [.ref 82, .int x1]) (rest := [.ref 107]) (e := 0) zd_178_27 rfl (by decide +kernel) (by decide) rfl rfl (Nat.le_of_ble_eq_true rfl) (zx_rcb_ok rfl (show 82 < 119 by decide)) (Nat.le_of_ble_eq_true rfl) rfl (by decide) (zt_M_at hr5)]
        rw [zs_iconst (z := 1) zd_178_30 (by decide)]
        rw [zp_iadd (x := r5) (y := 1) (z := (r5 + 1)) zd_178_31 rfl]
        rw [zs_iconst (z := 4) zd_178_32 (by decide)]
        by_cases c6 : 0 ≤ (r5 + 1) ∧ (r5 + 1) < 40
        · rw [if_pos c6] at H
          rw [zp_iastore (n := 119) (K := zx_pk (zK L) 119) (q := 107) (m := 40) (i := (r5 + 1)) (k := (r5 + 1).toNatClampNeg) (x := 4) (z := 4) zd_178_33 rfl ⟨by decide, by decide⟩ (zJ_in c6 rfl) rfl rfl]
          rw [zs_aload_n (ls := [some (.ref 82), some (.int x1), some (.int x2)]) zd_178_34 rfl]
          rw [zs_iload_n (ls := [some (.ref 82), some (.int x1), some (.int x2)]) zd_178_35 rfl]
          obtain ⟨r7, hr7, H⟩ := Option.bind_eq_some_iff.mp H
          rw [zp_callVv (st := [.int x1, .ref 82]) (as := [.ref 82, .int x1]) (rest := []) (e := 0) zd_178_36 rfl (by decide +kernel) (by decide) rfl rfl (Nat.le_of_ble_eq_true rfl) (zx_rcb_ok rfl (show 82 < 119 by decide)) (Nat.le_of_ble_eq_true rfl) rfl (by decide) (zt_M_letGo hr7)]
          have H := Option.some.inj H
          subst H
          exact zs_return zd_178_39 (by decide +kernel)
        · rw [if_neg c6] at H
          cases H
    · rw [if_neg c3] at H
      cases H
  · rw [if_neg c2] at H
    cases H
set_option maxRecDepth 20000 in
theorem zt_M_begin {a b L N : Nat} {σ : zS} {τ : zT} {x1 : Int32} {r : zS} (H : zf_M_begin N σ x1 = some r) : zx_go 2 176 0 [some (.ref 82), some (.int x1)] [] ((119, a, b), zx_pk (zK L) 119, σ, τ, zR) = some (none, ((119, a, b), zx_pk (zK L) 119, r, τ, zR)) := by
  unfold zf_M_begin at H
  rw [zs_aload_n (ls := [some (.ref 82), some (.int x1)]) zd_176_0 rfl]
  rw [zs_getR (n := 119) (K := zx_pk (zK L) 119) (ρ := zR) (c := 12) (k := 47) (q := 82) (p := 107) zd_176_1 rfl rfl rfl (by decide) rfl]
  rw [zs_aload_n (ls := [some (.ref 82), some (.int x1)]) zd_176_4 rfl]
  rw [zs_iload_n (ls := [some (.ref 82), some (.int x1)]) zd_176_5 rfl]
  obtain ⟨r1, hr1, H⟩ := Option.bind_eq_some_iff.mp H
  rw [zp_callVi (x := r1) (st := [.int x1, .ref 82, .ref 107]) (as := [.ref 82, .int x1]) (rest := [.ref 107]) (e := 0) zd_176_6 rfl (by decide +kernel) (by decide) rfl rfl (Nat.le_of_ble_eq_true rfl) (zx_rcb_ok rfl (show 82 < 119 by decide)) (Nat.le_of_ble_eq_true rfl) rfl (by decide) (zt_M_at hr1)]
  rw [zs_iconst (z := 1) zd_176_9 (by decide)]
  rw [zp_iadd (x := r1) (y := 1) (z := (r1 + 1)) zd_176_10 rfl]
  rw [zs_iconst (z := 1) zd_176_11 (by decide)]
  by_cases c2 : 0 ≤ (r1 + 1) ∧ (r1 + 1) < 40
  · rw [if_pos c2] at H
    rw [zp_iastore (n := 119) (K := zx_pk (zK L) 119) (q := 107) (m := 40) (i := (r1 + 1)) (k := (r1 + 1).toNatClampNeg) (x := 1) (z := 1) zd_176_12 rfl ⟨by decide, by decide⟩ (zJ_in c2 rfl) rfl rfl]
    rw [zs_aload_n (ls := [some (.ref 82), some (.int x1)]) zd_176_13 rfl]
    rw [zs_iload_n (ls := [some (.ref 82), some (.int x1)]) zd_176_14 rfl]
    rw [zs_iconst (z := 0) zd_176_15 (by decide)]
    obtain ⟨r3, hr3, H⟩ := Option.bind_eq_some_iff.mp H
    rw [zp_callVv (st := [.int 0, .int x1, .ref 82]) (as := [.ref 82, .int x1, .int 0]) (rest := []) (e := 1) zd_176_16 rfl (by decide +kernel) (by decide) rfl rfl (Nat.le_of_ble_eq_true rfl) (zx_rcb_ok rfl (show 82 < 119 by decide)) (Nat.le_of_ble_eq_true rfl) rfl (by decide) (zt_M_goTo hr3)]
    have H := Option.some.inj H
    subst H
    exact zs_return zd_176_19 (by decide +kernel)
  · rw [if_neg c2] at H
    cases H
set_option maxRecDepth 20000 in
theorem zt_M_firstState_136 {a b L N : Nat} {k51 : zS → Int32 → Option (zS)} (hk51 : ∀ {σ : zS} {τ : zT} {v1 : Int32} {o2 : Option Value} {o3 : Option Value} {r : zS}, k51 σ v1 = some r → zx_go 3 175 51 [some (.ref 82), some (.int v1), o2, o3] [] ((119, a, b), zx_pk (zK L) 119, σ, τ, zR) = some (none, ((119, a, b), zx_pk (zK L) 119, r, τ, zR))) {σ : zS} {τ : zT} {v1 : Int32} {o2 : Option Value} {o3 : Option Value} {r : zS} (H : zb_M_firstState_136 k51 N σ v1 = some r) : zx_go 3 175 136 [some (.ref 82), some (.int v1), o2, o3] [] ((119, a, b), zx_pk (zK L) 119, σ, τ, zR) = some (none, ((119, a, b), zx_pk (zK L) 119, r, τ, zR)) := by
  unfold zb_M_firstState_136 at H
  rw [zs_iinc (ls := [some (.ref 82), some (.int v1), o2, o3]) (x := v1) (z := (v1 + 1)) (ls' := [some (.ref 82), some (.int (v1 + 1)), o2, o3]) zd_175_136 rfl rfl rfl]
  rw [zs_goto (t := 51) zd_175_139 rfl]
  exact hk51 H
set_option maxRecDepth 20000 in
theorem zt_M_firstState_120 {a b L N : Nat} {k63 : zS → Int32 → Int32 → Int32 → Option (zS)} (hk63 : ∀ {σ : zS} {τ : zT} {v1 : Int32} {v2 : Int32} {v3 : Int32} {r : zS}, k63 σ v1 v2 v3 = some r → zx_go 3 175 63 [some (.ref 82), some (.int v1), some (.int v2), some (.int v3)] [] ((119, a, b), zx_pk (zK L) 119, σ, τ, zR) = some (none, ((119, a, b), zx_pk (zK L) 119, r, τ, zR))) {σ : zS} {τ : zT} {v1 : Int32} {v3 : Int32} {s0 : Int32} {o2 : Option Value} {r : zS} (H : zb_M_firstState_120 k63 N σ v1 v3 s0 = some r) : zx_go 3 175 120 [some (.ref 82), some (.int v1), o2, some (.int v3)] [.int s0] ((119, a, b), zx_pk (zK L) 119, σ, τ, zR) = some (none, ((119, a, b), zx_pk (zK L) 119, r, τ, zR)) := by
  unfold zb_M_firstState_120 at H
  rw [zs_istore_n (x := s0) (ls' := [some (.ref 82), some (.int v1), some (.int s0), some (.int v3)]) zd_175_120 (Nat.le_of_ble_eq_true rfl) rfl]
  rw [zs_iinc (ls := [some (.ref 82), some (.int v1), some (.int s0), some (.int v3)]) (x := v3) (z := (v3 + 1)) (ls' := [some (.ref 82), some (.int v1), some (.int s0), some (.int (v3 + 1))]) zd_175_121 rfl rfl rfl]
  rw [zs_goto (t := 63) zd_175_124 rfl]
  exact hk63 H
set_option maxRecDepth 20000 in
theorem zt_M_firstState_119 {a b L N : Nat} {k63 : zS → Int32 → Int32 → Int32 → Option (zS)} (hk63 : ∀ {σ : zS} {τ : zT} {v1 : Int32} {v2 : Int32} {v3 : Int32} {r : zS}, k63 σ v1 v2 v3 = some r → zx_go 3 175 63 [some (.ref 82), some (.int v1), some (.int v2), some (.int v3)] [] ((119, a, b), zx_pk (zK L) 119, σ, τ, zR) = some (none, ((119, a, b), zx_pk (zK L) 119, r, τ, zR))) {σ : zS} {τ : zT} {v1 : Int32} {v3 : Int32} {o2 : Option Value} {r : zS} (H : zb_M_firstState_119 k63 N σ v1 v3 = some r) : zx_go 3 175 119 [some (.ref 82), some (.int v1), o2, some (.int v3)] [] ((119, a, b), zx_pk (zK L) 119, σ, τ, zR) = some (none, ((119, a, b), zx_pk (zK L) 119, r, τ, zR)) := by
  unfold zb_M_firstState_119 at H
  rw [zs_iconst (z := 0) zd_175_119 (by decide)]
  exact zt_M_firstState_120 (hk63 := hk63) H
set_option maxRecDepth 20000 in
theorem zt_M_firstState_115 {a b L N : Nat} {k63 : zS → Int32 → Int32 → Int32 → Option (zS)} (hk63 : ∀ {σ : zS} {τ : zT} {v1 : Int32} {v2 : Int32} {v3 : Int32} {r : zS}, k63 σ v1 v2 v3 = some r → zx_go 3 175 63 [some (.ref 82), some (.int v1), some (.int v2), some (.int v3)] [] ((119, a, b), zx_pk (zK L) 119, σ, τ, zR) = some (none, ((119, a, b), zx_pk (zK L) 119, r, τ, zR))) {σ : zS} {τ : zT} {v1 : Int32} {v3 : Int32} {o2 : Option Value} {r : zS} (H : zb_M_firstState_115 k63 N σ v1 v3 = some r) : zx_go 3 175 115 [some (.ref 82), some (.int v1), o2, some (.int v3)] [] ((119, a, b), zx_pk (zK L) 119, σ, τ, zR) = some (none, ((119, a, b), zx_pk (zK L) 119, r, τ, zR)) := by
  unfold zb_M_firstState_115 at H
  rw [zs_iconst (z := 1) zd_175_115 (by decide)]
  rw [zs_goto (t := 120) zd_175_116 rfl]
  exact zt_M_firstState_120 (hk63 := hk63) H
set_option maxRecDepth 20000 in
theorem zt_M_firstState_63 {a b L N : Nat} {k51 : zS → Int32 → Option (zS)} (hk51 : ∀ {σ : zS} {τ : zT} {v1 : Int32} {o2 : Option Value} {o3 : Option Value} {r : zS}, k51 σ v1 = some r → zx_go 3 175 51 [some (.ref 82), some (.int v1), o2, o3] [] ((119, a, b), zx_pk (zK L) 119, σ, τ, zR) = some (none, ((119, a, b), zx_pk (zK L) 119, r, τ, zR))) : ∀ {n : Nat} {σ : zS} {τ : zT} {v1 : Int32} {v2 : Int32} {v3 : Int32} {r : zS}, zb_M_firstState_63 k51 N n σ v1 v2 v3 = some r → zx_go 3 175 63 [some (.ref 82), some (.int v1), some (.int v2), some (.int v3)] [] ((119, a, b), zx_pk (zK L) 119, σ, τ, zR) = some (none, ((119, a, b), zx_pk (zK L) 119, r, τ, zR)) := by
  intro n
  induction n with
  | zero =>
    intro _ _ _ _ _ _ H
    cases H
  | succ n ih =>
    intro σ τ v1 v2 v3 r H
    rw [zb_M_firstState_63] at H
    rw [zs_iload_n (ls := [some (.ref 82), some (.int v1), some (.int v2), some (.int v3)]) zd_175_63 rfl]
    rw [zs_bipush (z := 24) zd_175_64 (by decide)]
    rw [zs_aload_n (ls := [some (.ref 82), some (.int v1), some (.int v2), some (.int v3)]) zd_175_66 rfl]
    rw [zp_getI (n := 119) (K := zx_pk (zK L) 119) (σ := σ) (c := 12) (k := 17) (q := 82) (v := (σ 82 17)) zd_175_67 rfl rfl rfl (by decide) rfl]
    rw [zp_imul (x := 24) (y := (σ 82 17)) (z := (24 * (σ 82 17))) zd_175_70 rfl]
    by_cases c4 : (24 * (σ 82 17)) ≤ v3
    · rw [if_pos c4] at H
      rw [zp_icmp_ge_t (x := v3) (y := (24 * (σ 82 17))) (t := 127) zd_175_71 rfl c4]
      rw [zs_iload_n (ls := [some (.ref 82), some (.int v1), some (.int v2), some (.int v3)]) zd_175_127 rfl]
      by_cases c5 : ¬ v2 = 0
      · rw [if_pos c5] at H
        rw [zp_if_ne_t (x := v2) (t := 136) zd_175_128 rfl c5]
        exact zt_M_firstState_136 (hk51 := hk51) H
      · rw [if_neg c5] at H
        rw [zp_if_ne_f (x := v2) (t := 136) zd_175_128 rfl c5]
        rw [zs_aload_n (ls := [some (.ref 82), some (.int v1), some (.int v2), some (.int v3)]) zd_175_131 rfl]
        rw [zs_iload_n (ls := [some (.ref 82), some (.int v1), some (.int v2), some (.int v3)]) zd_175_132 rfl]
        obtain ⟨r6, hr6, H⟩ := Option.bind_eq_some_iff.mp H
        rw [zp_callVv (st := [.int v1, .ref 82]) (as := [.ref 82, .int v1]) (rest := []) (e := 2) zd_175_133 rfl (by decide +kernel) (by decide) rfl rfl (Nat.le_of_ble_eq_true rfl) (zx_rcb_ok rfl (show 82 < 119 by decide)) (Nat.le_of_ble_eq_true rfl) rfl (by decide) (zt_M_begin hr6)]
        exact zt_M_firstState_136 (hk51 := hk51) H
    · rw [if_neg c4] at H
      rw [zp_icmp_ge_f (x := v3) (y := (24 * (σ 82 17))) (t := 127) zd_175_71 rfl c4]
      rw [zs_iload_n (ls := [some (.ref 82), some (.int v1), some (.int v2), some (.int v3)]) zd_175_74 rfl]
      by_cases c7 : ¬ v2 = 0
      · rw [if_pos c7] at H
        rw [zp_if_ne_t (x := v2) (t := 115) zd_175_75 rfl c7]
        exact zt_M_firstState_115 (hk63 := ih) H
      · rw [if_neg c7] at H
        rw [zp_if_ne_f (x := v2) (t := 115) zd_175_75 rfl c7]
        rw [zs_iload_n (ls := [some (.ref 82), some (.int v1), some (.int v2), some (.int v3)]) zd_175_78 rfl]
        rw [zs_bipush (z := 24) zd_175_79 (by decide)]
        rw [zp_irem (x := v3) (y := 24) (z := (zJ_rem v3 24)) zd_175_81 (by decide) rfl]
        rw [zs_aload_n (ls := [some (.ref 82), some (.int v1), some (.int v2), some (.int v3)]) zd_175_82 rfl]
        rw [zs_getR (n := 119) (K := zx_pk (zK L) 119) (ρ := zR) (c := 12) (k := 24) (q := 82) (p := 90) zd_175_83 rfl rfl rfl (by decide) rfl]
        rw [zs_iload_n (ls := [some (.ref 82), some (.int v1), some (.int v2), some (.int v3)]) zd_175_86 rfl]
        rw [zs_bipush (z := 24) zd_175_87 (by decide)]
        rw [zp_idiv (x := v3) (y := 24) (z := (v3 / 24)) zd_175_89 (by decide) rfl]
        by_cases c8 : 0 ≤ (v3 / 24) ∧ (v3 / 24) < 4
        · rw [if_pos c8] at H
          rw [zp_iaload (n := 119) (K := zx_pk (zK L) 119) (σ := σ) (q := 90) (m := 4) (i := (v3 / 24)) (k := (v3 / 24).toNatClampNeg) (v := (σ 90 (v3 / 24).toNatClampNeg)) zd_175_90 rfl (by decide) (zJ_in c8 rfl) rfl rfl]
          by_cases c9 : (σ 90 (v3 / 24).toNatClampNeg) ≤ (zJ_rem v3 24)
          · rw [if_pos c9] at H
            rw [zp_icmp_ge_t (x := (zJ_rem v3 24)) (y := (σ 90 (v3 / 24).toNatClampNeg)) (t := 119) zd_175_91 rfl c9]
            exact zt_M_firstState_119 (hk63 := ih) H
          · rw [if_neg c9] at H
            rw [zp_icmp_ge_f (x := (zJ_rem v3 24)) (y := (σ 90 (v3 / 24).toNatClampNeg)) (t := 119) zd_175_91 rfl c9]
            rw [zs_aload_n (ls := [some (.ref 82), some (.int v1), some (.int v2), some (.int v3)]) zd_175_94 rfl]
            rw [zs_getR (n := 119) (K := zx_pk (zK L) 119) (ρ := zR) (c := 12) (k := 27) (q := 82) (p := 92) zd_175_95 rfl rfl rfl (by decide) rfl]
            rw [zs_iload_n (ls := [some (.ref 82), some (.int v1), some (.int v2), some (.int v3)]) zd_175_98 rfl]
            by_cases c10 : 0 ≤ v3 ∧ v3 < 96
            · rw [if_pos c10] at H
              rw [zp_iaload (n := 119) (K := zx_pk (zK L) 119) (σ := σ) (q := 92) (m := 96) (i := v3) (k := v3.toNatClampNeg) (v := (σ 92 v3.toNatClampNeg)) zd_175_99 rfl (by decide) (zJ_in c10 rfl) rfl rfl]
              rw [zs_bipush (z := 10) zd_175_100 (by decide)]
              by_cases c11 : ¬ (σ 92 v3.toNatClampNeg) = 10
              · rw [if_pos c11] at H
                rw [zp_icmp_ne_t (x := (σ 92 v3.toNatClampNeg)) (y := 10) (t := 119) zd_175_102 rfl c11]
                exact zt_M_firstState_119 (hk63 := ih) H
              · rw [if_neg c11] at H
                rw [zp_icmp_ne_f (x := (σ 92 v3.toNatClampNeg)) (y := 10) (t := 119) zd_175_102 rfl c11]
                rw [zs_aload_n (ls := [some (.ref 82), some (.int v1), some (.int v2), some (.int v3)]) zd_175_105 rfl]
                rw [zs_getR (n := 119) (K := zx_pk (zK L) 119) (ρ := zR) (c := 12) (k := 28) (q := 82) (p := 93) zd_175_106 rfl rfl rfl (by decide) rfl]
                rw [zs_iload_n (ls := [some (.ref 82), some (.int v1), some (.int v2), some (.int v3)]) zd_175_109 rfl]
                by_cases c12 : 0 ≤ v3 ∧ v3 < 96
                · rw [if_pos c12] at H
                  rw [zp_iaload (n := 119) (K := zx_pk (zK L) 119) (σ := σ) (q := 93) (m := 96) (i := v3) (k := v3.toNatClampNeg) (v := (σ 93 v3.toNatClampNeg)) zd_175_110 rfl (by decide) (zJ_in c12 rfl) rfl rfl]
                  rw [zs_iload_n (ls := [some (.ref 82), some (.int v1), some (.int v2), some (.int v3)]) zd_175_111 rfl]
                  by_cases c13 : ¬ (σ 93 v3.toNatClampNeg) = v1
                  · rw [if_pos c13] at H
                    rw [zp_icmp_ne_t (x := (σ 93 v3.toNatClampNeg)) (y := v1) (t := 119) zd_175_112 rfl c13]
                    exact zt_M_firstState_119 (hk63 := ih) H
                  · rw [if_neg c13] at H
                    rw [zp_icmp_ne_f (x := (σ 93 v3.toNatClampNeg)) (y := v1) (t := 119) zd_175_112 rfl c13]
                    exact zt_M_firstState_115 (hk63 := ih) H
                · rw [if_neg c12] at H
                  cases H
            · rw [if_neg c10] at H
              cases H
        · rw [if_neg c8] at H
          cases H
set_option maxRecDepth 20000 in
theorem zt_M_firstState_51 {a b L N : Nat} : ∀ {n : Nat} {σ : zS} {τ : zT} {v1 : Int32} {o2 : Option Value} {o3 : Option Value} {r : zS}, zb_M_firstState_51 N n σ v1 = some r → zx_go 3 175 51 [some (.ref 82), some (.int v1), o2, o3] [] ((119, a, b), zx_pk (zK L) 119, σ, τ, zR) = some (none, ((119, a, b), zx_pk (zK L) 119, r, τ, zR)) := by
  intro n
  induction n with
  | zero =>
    intro _ _ _ _ _ _ H
    cases H
  | succ n ih =>
    intro σ τ v1 o2 o3 r H
    rw [zb_M_firstState_51] at H
    rw [zs_iload_n (ls := [some (.ref 82), some (.int v1), o2, o3]) zd_175_51 rfl]
    rw [zs_aload_n (ls := [some (.ref 82), some (.int v1), o2, o3]) zd_175_52 rfl]
    rw [zp_getI (n := 119) (K := zx_pk (zK L) 119) (σ := σ) (c := 12) (k := 17) (q := 82) (v := (σ 82 17)) zd_175_53 rfl rfl rfl (by decide) rfl]
    by_cases c3 : (σ 82 17) ≤ v1
    · rw [if_pos c3] at H
      rw [zp_icmp_ge_t (x := v1) (y := (σ 82 17)) (t := 142) zd_175_56 rfl c3]
      have H := Option.some.inj H
      subst H
      exact zs_return zd_175_142 (by decide +kernel)
    · rw [if_neg c3] at H
      rw [zp_icmp_ge_f (x := v1) (y := (σ 82 17)) (t := 142) zd_175_56 rfl c3]
      rw [zs_iconst (z := 0) zd_175_59 (by decide)]
      rw [zs_istore_n (x := 0) (ls' := [some (.ref 82), some (.int v1), some (.int 0), o3]) zd_175_60 (Nat.le_of_ble_eq_true rfl) rfl]
      rw [zs_iconst (z := 0) zd_175_61 (by decide)]
      rw [zs_istore_n (x := 0) (ls' := [some (.ref 82), some (.int v1), some (.int 0), some (.int 0)]) zd_175_62 (Nat.le_of_ble_eq_true rfl) rfl]
      exact zt_M_firstState_63 (hk51 := ih) H
set_option maxRecDepth 20000 in
theorem zt_M_firstState_23 {a b L N : Nat} : ∀ {n : Nat} {σ : zS} {τ : zT} {v1 : Int32} {o2 : Option Value} {o3 : Option Value} {r : zS}, zb_M_firstState_23 N n σ v1 = some r → zx_go 3 175 23 [some (.ref 82), some (.int v1), o2, o3] [] ((119, a, b), zx_pk (zK L) 119, σ, τ, zR) = some (none, ((119, a, b), zx_pk (zK L) 119, r, τ, zR)) := by
  intro n
  induction n with
  | zero =>
    intro _ _ _ _ _ _ H
    cases H
  | succ n ih =>
    intro σ τ v1 o2 o3 r H
    rw [zb_M_firstState_23] at H
    rw [zs_iload_n (ls := [some (.ref 82), some (.int v1), o2, o3]) zd_175_23 rfl]
    rw [zs_aload_n (ls := [some (.ref 82), some (.int v1), o2, o3]) zd_175_24 rfl]
    rw [zp_getI (n := 119) (K := zx_pk (zK L) 119) (σ := σ) (c := 12) (k := 15) (q := 82) (v := (σ 82 15)) zd_175_25 rfl rfl rfl (by decide) rfl]
    by_cases c2 : (σ 82 15) ≤ v1
    · rw [if_pos c2] at H
      rw [zp_icmp_ge_t (x := v1) (y := (σ 82 15)) (t := 49) zd_175_28 rfl c2]
      rw [zs_iconst (z := 0) zd_175_49 (by decide)]
      rw [zs_istore_n (x := 0) (ls' := [some (.ref 82), some (.int 0), o2, o3]) zd_175_50 (Nat.le_of_ble_eq_true rfl) rfl]
      exact zt_M_firstState_51  H
    · rw [if_neg c2] at H
      rw [zp_icmp_ge_f (x := v1) (y := (σ 82 15)) (t := 49) zd_175_28 rfl c2]
      rw [zs_aload_n (ls := [some (.ref 82), some (.int v1), o2, o3]) zd_175_31 rfl]
      rw [zs_getR (n := 119) (K := zx_pk (zK L) 119) (ρ := zR) (c := 12) (k := 47) (q := 82) (p := 107) zd_175_32 rfl rfl rfl (by decide) rfl]
      rw [zs_iload_n (ls := [some (.ref 82), some (.int v1), o2, o3]) zd_175_35 rfl]
      rw [zs_aload_n (ls := [some (.ref 82), some (.int v1), o2, o3]) zd_175_36 rfl]
      rw [zs_getR (n := 119) (K := zx_pk (zK L) 119) (ρ := zR) (c := 12) (k := 23) (q := 82) (p := 89) zd_175_37 rfl rfl rfl (by decide) rfl]
      rw [zs_iload_n (ls := [some (.ref 82), some (.int v1), o2, o3]) zd_175_40 rfl]
      by_cases c14 : 0 ≤ v1 ∧ v1 < 6
      · rw [if_pos c14] at H
        rw [zp_iaload (n := 119) (K := zx_pk (zK L) 119) (σ := σ) (q := 89) (m := 6) (i := v1) (k := v1.toNatClampNeg) (v := (σ 89 v1.toNatClampNeg)) zd_175_41 rfl (by decide) (zJ_in c14 rfl) rfl rfl]
        by_cases c15 : 0 ≤ v1 ∧ v1 < 40
        · rw [if_pos c15] at H
          rw [zp_iastore (n := 119) (K := zx_pk (zK L) 119) (q := 107) (m := 40) (i := v1) (k := v1.toNatClampNeg) (x := (σ 89 v1.toNatClampNeg)) (z := (σ 89 v1.toNatClampNeg)) zd_175_42 rfl ⟨by decide, by decide⟩ (zJ_in c15 rfl) rfl rfl]
          rw [zs_iinc (ls := [some (.ref 82), some (.int v1), o2, o3]) (x := v1) (z := (v1 + 1)) (ls' := [some (.ref 82), some (.int (v1 + 1)), o2, o3]) zd_175_43 rfl rfl rfl]
          rw [zs_goto (t := 23) zd_175_46 rfl]
          exact ih H
        · rw [if_neg c15] at H
          cases H
      · rw [if_neg c14] at H
        cases H
set_option maxRecDepth 20000 in
theorem zt_M_firstState_2 {a b L N : Nat} : ∀ {n : Nat} {σ : zS} {τ : zT} {v1 : Int32} {o2 : Option Value} {o3 : Option Value} {r : zS}, zb_M_firstState_2 N n σ v1 = some r → zx_go 3 175 2 [some (.ref 82), some (.int v1), o2, o3] [] ((119, a, b), zx_pk (zK L) 119, σ, τ, zR) = some (none, ((119, a, b), zx_pk (zK L) 119, r, τ, zR)) := by
  intro n
  induction n with
  | zero =>
    intro _ _ _ _ _ _ H
    cases H
  | succ n ih =>
    intro σ τ v1 o2 o3 r H
    rw [zb_M_firstState_2] at H
    rw [zs_iload_n (ls := [some (.ref 82), some (.int v1), o2, o3]) zd_175_2 rfl]
    rw [zs_bipush (z := 40) zd_175_3 (by decide)]
    by_cases c1 : 40 ≤ v1
    · rw [if_pos c1] at H
      rw [zp_icmp_ge_t (x := v1) (y := 40) (t := 21) zd_175_5 rfl c1]
      rw [zs_iconst (z := 0) zd_175_21 (by decide)]
      rw [zs_istore_n (x := 0) (ls' := [some (.ref 82), some (.int 0), o2, o3]) zd_175_22 (Nat.le_of_ble_eq_true rfl) rfl]
      exact zt_M_firstState_23  H
    · rw [if_neg c1] at H
      rw [zp_icmp_ge_f (x := v1) (y := 40) (t := 21) zd_175_5 rfl c1]
      rw [zs_aload_n (ls := [some (.ref 82), some (.int v1), o2, o3]) zd_175_8 rfl]
      rw [zs_getR (n := 119) (K := zx_pk (zK L) 119) (ρ := zR) (c := 12) (k := 47) (q := 82) (p := 107) zd_175_9 rfl rfl rfl (by decide) rfl]
      rw [zs_iload_n (ls := [some (.ref 82), some (.int v1), o2, o3]) zd_175_12 rfl]
      rw [zs_iconst (z := 0) zd_175_13 (by decide)]
      by_cases c16 : 0 ≤ v1 ∧ v1 < 40
      · rw [if_pos c16] at H
        rw [zp_iastore (n := 119) (K := zx_pk (zK L) 119) (q := 107) (m := 40) (i := v1) (k := v1.toNatClampNeg) (x := 0) (z := 0) zd_175_14 rfl ⟨by decide, by decide⟩ (zJ_in c16 rfl) rfl rfl]
        rw [zs_iinc (ls := [some (.ref 82), some (.int v1), o2, o3]) (x := v1) (z := (v1 + 1)) (ls' := [some (.ref 82), some (.int (v1 + 1)), o2, o3]) zd_175_15 rfl rfl rfl]
        rw [zs_goto (t := 2) zd_175_18 rfl]
        exact ih H
      · rw [if_neg c16] at H
        cases H
set_option maxRecDepth 20000 in
theorem zt_M_firstState {a b L N : Nat} {σ : zS} {τ : zT} {r : zS} (H : zf_M_firstState N σ = some r) : zx_go 3 175 0 [some (.ref 82), none, none, none] [] ((119, a, b), zx_pk (zK L) 119, σ, τ, zR) = some (none, ((119, a, b), zx_pk (zK L) 119, r, τ, zR)) := by
  unfold zf_M_firstState at H
  rw [zs_iconst (z := 0) zd_175_0 (by decide)]
  rw [zs_istore_n (x := 0) (ls' := [some (.ref 82), some (.int 0), none, none]) zd_175_1 (Nat.le_of_ble_eq_true rfl) rfl]
  exact zt_M_firstState_2  H
set_option maxRecDepth 20000 in
theorem zt_M_put_145 {a b L N : Nat} : ∀ {n : Nat} {σ : zS} {τ : zT} {v1 : Int32} {v2 : Int32} {v3 : Int32} {o4 : Option Value} {r : Int32 × zS}, zb_M_put_145 N n σ v1 v2 v3 = some r → zx_go 0 180 145 [some (.ref 82), some (.int v1), some (.int v2), some (.int v3), o4] [] ((119, a, b), zx_pk (zK L) 119, σ, τ, zR) = some (some (.int r.1), ((119, a, b), zx_pk (zK L) 119, r.2, τ, zR)) := by
  intro n
  induction n with
  | zero =>
    intro _ _ _ _ _ _ _ H
    cases H
  | succ n ih =>
    intro σ τ v1 v2 v3 o4 r H
    rw [zb_M_put_145] at H
    rw [zs_iload_n (ls := [some (.ref 82), some (.int v1), some (.int v2), some (.int v3), o4]) zd_180_145 rfl]
    rw [zs_bipush (z := 40) zd_180_146 (by decide)]
    by_cases c5 : 40 ≤ v3
    · rw [if_pos c5] at H
      rw [zp_icmp_ge_t (x := v3) (y := 40) (t := 175) zd_180_148 rfl c5]
      rw [zs_aload_n (ls := [some (.ref 82), some (.int v1), some (.int v2), some (.int v3), o4]) zd_180_175 rfl]
      rw [zs_getR (n := 119) (K := zx_pk (zK L) 119) (ρ := zR) (c := 12) (k := 50) (q := 82) (p := 110) zd_180_176 rfl rfl rfl (by decide) rfl]
      rw [zs_iload_n (ls := [some (.ref 82), some (.int v1), some (.int v2), some (.int v3), o4]) zd_180_179 rfl]
      rw [zs_aload_n (ls := [some (.ref 82), some (.int v1), some (.int v2), some (.int v3), o4]) zd_180_180 rfl]
      rw [zs_getR (n := 119) (K := zx_pk (zK L) 119) (ρ := zR) (c := 12) (k := 49) (q := 82) (p := 109) zd_180_181 rfl rfl rfl (by decide) rfl]
      rw [zs_iload_n (ls := [some (.ref 82), some (.int v1), some (.int v2), some (.int v3), o4]) zd_180_184 rfl]
      by_cases c6 : 0 ≤ v1 ∧ v1 < 8192
      · rw [if_pos c6] at H
        rw [zp_iaload (n := 119) (K := zx_pk (zK L) 119) (σ := σ) (q := 109) (m := 8192) (i := v1) (k := v1.toNatClampNeg) (v := (σ 109 v1.toNatClampNeg)) zd_180_185 rfl (by decide) (zJ_in c6 rfl) rfl rfl]
        by_cases c7 : 0 ≤ v2 ∧ v2 < 8000
        · rw [if_pos c7] at H
          rw [zp_iastore (n := 119) (K := zx_pk (zK L) 119) (q := 110) (m := 8000) (i := v2) (k := v2.toNatClampNeg) (x := (σ 109 v1.toNatClampNeg)) (z := (σ 109 v1.toNatClampNeg)) zd_180_186 rfl ⟨by decide, by decide⟩ (zJ_in c7 rfl) rfl rfl]
          rw [zs_aload_n (ls := [some (.ref 82), some (.int v1), some (.int v2), some (.int v3), o4]) zd_180_187 rfl]
          rw [zs_getR (n := 119) (K := zx_pk (zK L) 119) (ρ := zR) (c := 12) (k := 49) (q := 82) (p := 109) zd_180_188 rfl rfl rfl (by decide) rfl]
          rw [zs_iload_n (ls := [some (.ref 82), some (.int v1), some (.int v2), some (.int v3), o4]) zd_180_191 rfl]
          rw [zs_iload_n (ls := [some (.ref 82), some (.int v1), some (.int v2), some (.int v3), o4]) zd_180_192 rfl]
          by_cases c8 : 0 ≤ v1 ∧ v1 < 8192
          · rw [if_pos c8] at H
            rw [zp_iastore (n := 119) (K := zx_pk (zK L) 119) (q := 109) (m := 8192) (i := v1) (k := v1.toNatClampNeg) (x := v2) (z := v2) zd_180_193 rfl ⟨by decide, by decide⟩ (zJ_in c8 rfl) rfl rfl]
            rw [zs_aload_n (ls := [some (.ref 82), some (.int v1), some (.int v2), some (.int v3), o4]) zd_180_194 rfl]
            rw [zs_dup (a := .ref 82) zd_180_195 rfl]
            rw [zp_getI (n := 119) (K := zx_pk (zK L) 119) (σ := (zx_up (zx_up σ 110 v2.toNatClampNeg (σ 109 v1.toNatClampNeg)) 109 v1.toNatClampNeg v2)) (c := 12) (k := 52) (q := 82) (v := (σ 82 52)) zd_180_196 rfl rfl rfl (by decide) (show ((zx_up (zx_up σ 110 v2.toNatClampNeg (σ 109 v1.toNatClampNeg)) 109 v1.toNatClampNeg v2) : zS) 82 52 = (σ 82 52) from ((zx_up_ne (by decide)).trans ((zx_up_ne (by decide)).trans rfl)))]
            rw [zs_iconst (z := 1) zd_180_199 (by decide)]
            rw [zp_iadd (x := (σ 82 52)) (y := 1) (z := ((σ 82 52) + 1)) zd_180_200 rfl]
            rw [zs_putI (n := 119) (K := zx_pk (zK L) 119) (c := 12) (k := 52) (q := 82) (x := ((σ 82 52) + 1)) zd_180_201 rfl rfl (by decide +kernel) rfl (by decide)]
            rw [zs_iload_n (ls := [some (.ref 82), some (.int v1), some (.int v2), some (.int v3), o4]) zd_180_204 rfl]
            have H := Option.some.inj H
            subst H
            exact zs_ireturn zd_180_205 rfl
          · rw [if_neg c8] at H
            cases H
        · rw [if_neg c7] at H
          cases H
      · rw [if_neg c6] at H
        cases H
    · rw [if_neg c5] at H
      rw [zp_icmp_ge_f (x := v3) (y := 40) (t := 175) zd_180_148 rfl c5]
      rw [zs_aload_n (ls := [some (.ref 82), some (.int v1), some (.int v2), some (.int v3), o4]) zd_180_151 rfl]
      rw [zs_getR (n := 119) (K := zx_pk (zK L) 119) (ρ := zR) (c := 12) (k := 48) (q := 82) (p := 108) zd_180_152 rfl rfl rfl (by decide) rfl]
      rw [zs_bipush (z := 40) zd_180_155 (by decide)]
      rw [zs_iload_n (ls := [some (.ref 82), some (.int v1), some (.int v2), some (.int v3), o4]) zd_180_157 rfl]
      rw [zp_imul (x := 40) (y := v2) (z := (40 * v2)) zd_180_158 rfl]
      rw [zs_iload_n (ls := [some (.ref 82), some (.int v1), some (.int v2), some (.int v3), o4]) zd_180_159 rfl]
      rw [zp_iadd (x := (40 * v2)) (y := v3) (z := ((40 * v2) + v3)) zd_180_160 rfl]
      rw [zs_aload_n (ls := [some (.ref 82), some (.int v1), some (.int v2), some (.int v3), o4]) zd_180_161 rfl]
      rw [zs_getR (n := 119) (K := zx_pk (zK L) 119) (ρ := zR) (c := 12) (k := 47) (q := 82) (p := 107) zd_180_162 rfl rfl rfl (by decide) rfl]
      rw [zs_iload_n (ls := [some (.ref 82), some (.int v1), some (.int v2), some (.int v3), o4]) zd_180_165 rfl]
      by_cases c9 : 0 ≤ v3 ∧ v3 < 40
      · rw [if_pos c9] at H
        rw [zp_iaload (n := 119) (K := zx_pk (zK L) 119) (σ := σ) (q := 107) (m := 40) (i := v3) (k := v3.toNatClampNeg) (v := (σ 107 v3.toNatClampNeg)) zd_180_166 rfl (by decide) (zJ_in c9 rfl) rfl rfl]
        rw [zp_i2b (x := (σ 107 v3.toNatClampNeg)) (z := (zJ_byte (σ 107 v3.toNatClampNeg))) zd_180_167 rfl]
        by_cases c10 : 0 ≤ ((40 * v2) + v3) ∧ ((40 * v2) + v3) < 320000
        · rw [if_pos c10] at H
          rw [zp_bastore (n := 119) (K := zx_pk (zK L) 119) (q := 108) (m := 320000) (i := ((40 * v2) + v3)) (k := ((40 * v2) + v3).toNatClampNeg) (x := (zJ_byte (σ 107 v3.toNatClampNeg))) (z := (zJ_byte (zJ_byte (σ 107 v3.toNatClampNeg)))) zd_180_168 rfl ⟨by decide, by decide⟩ (zJ_in c10 rfl) rfl rfl]
          rw [zs_iinc (ls := [some (.ref 82), some (.int v1), some (.int v2), some (.int v3), o4]) (x := v3) (z := (v3 + 1)) (ls' := [some (.ref 82), some (.int v1), some (.int v2), some (.int (v3 + 1)), o4]) zd_180_169 rfl rfl rfl]
          rw [zs_goto (t := 145) zd_180_172 rfl]
          exact ih H
        · rw [if_neg c10] at H
          cases H
      · rw [if_neg c9] at H
        cases H
set_option maxRecDepth 20000 in
theorem zt_M_put_105 {a b L N : Nat} {k50 : zS → Int32 → Int32 → Option (Int32 × zS)} (hk50 : ∀ {σ : zS} {τ : zT} {v1 : Int32} {v2 : Int32} {o3 : Option Value} {o4 : Option Value} {r : Int32 × zS}, k50 σ v1 v2 = some r → zx_go 0 180 50 [some (.ref 82), some (.int v1), some (.int v2), o3, o4] [] ((119, a, b), zx_pk (zK L) 119, σ, τ, zR) = some (some (.int r.1), ((119, a, b), zx_pk (zK L) 119, r.2, τ, zR))) {σ : zS} {τ : zT} {v1 : Int32} {v2 : Int32} {v3 : Int32} {o4 : Option Value} {r : Int32 × zS} (H : zb_M_put_105 k50 N σ v1 v2 v3 = some r) : zx_go 0 180 105 [some (.ref 82), some (.int v1), some (.int v2), some (.int v3), o4] [] ((119, a, b), zx_pk (zK L) 119, σ, τ, zR) = some (some (.int r.1), ((119, a, b), zx_pk (zK L) 119, r.2, τ, zR)) := by
  unfold zb_M_put_105 at H
  rw [zs_iload_n (ls := [some (.ref 82), some (.int v1), some (.int v2), some (.int v3), o4]) zd_180_105 rfl]
  by_cases c12 : v3 = 0
  · rw [if_pos c12] at H
    rw [zp_if_eq_t (x := v3) (t := 111) zd_180_106 rfl c12]
    rw [zs_aload_n (ls := [some (.ref 82), some (.int v1), some (.int v2), some (.int v3), o4]) zd_180_111 rfl]
    rw [zs_getR (n := 119) (K := zx_pk (zK L) 119) (ρ := zR) (c := 12) (k := 50) (q := 82) (p := 110) zd_180_112 rfl rfl rfl (by decide) rfl]
    rw [zs_iload_n (ls := [some (.ref 82), some (.int v1), some (.int v2), some (.int v3), o4]) zd_180_115 rfl]
    by_cases c13 : 0 ≤ v2 ∧ v2 < 8000
    · rw [if_pos c13] at H
      rw [zp_iaload (n := 119) (K := zx_pk (zK L) 119) (σ := σ) (q := 110) (m := 8000) (i := v2) (k := v2.toNatClampNeg) (v := (σ 110 v2.toNatClampNeg)) zd_180_116 rfl (by decide) (zJ_in c13 rfl) rfl rfl]
      rw [zs_istore_n (x := (σ 110 v2.toNatClampNeg)) (ls' := [some (.ref 82), some (.int v1), some (.int (σ 110 v2.toNatClampNeg)), some (.int v3), o4]) zd_180_117 (Nat.le_of_ble_eq_true rfl) rfl]
      rw [zs_goto (t := 50) zd_180_118 rfl]
      exact hk50 H
    · rw [if_neg c13] at H
      cases H
  · rw [if_neg c12] at H
    rw [zp_if_eq_f (x := v3) (t := 111) zd_180_106 rfl c12]
    rw [zs_iload_n (ls := [some (.ref 82), some (.int v1), some (.int v2), some (.int v3), o4]) zd_180_109 rfl]
    have H := Option.some.inj H
    subst H
    exact zs_ireturn zd_180_110 rfl
set_option maxRecDepth 20000 in
theorem zt_M_put_98 {a b L N : Nat} {k60 : zS → Int32 → Int32 → Int32 → Int32 → Option (Int32 × zS)} (hk60 : ∀ {σ : zS} {τ : zT} {v1 : Int32} {v2 : Int32} {v3 : Int32} {v4 : Int32} {r : Int32 × zS}, k60 σ v1 v2 v3 v4 = some r → zx_go 0 180 60 [some (.ref 82), some (.int v1), some (.int v2), some (.int v3), some (.int v4)] [] ((119, a, b), zx_pk (zK L) 119, σ, τ, zR) = some (some (.int r.1), ((119, a, b), zx_pk (zK L) 119, r.2, τ, zR))) {σ : zS} {τ : zT} {v1 : Int32} {v2 : Int32} {v4 : Int32} {s0 : Int32} {o3 : Option Value} {r : Int32 × zS} (H : zb_M_put_98 k60 N σ v1 v2 v4 s0 = some r) : zx_go 0 180 98 [some (.ref 82), some (.int v1), some (.int v2), o3, some (.int v4)] [.int s0] ((119, a, b), zx_pk (zK L) 119, σ, τ, zR) = some (some (.int r.1), ((119, a, b), zx_pk (zK L) 119, r.2, τ, zR)) := by
  unfold zb_M_put_98 at H
  rw [zs_istore_n (x := s0) (ls' := [some (.ref 82), some (.int v1), some (.int v2), some (.int s0), some (.int v4)]) zd_180_98 (Nat.le_of_ble_eq_true rfl) rfl]
  rw [zs_iinc (ls := [some (.ref 82), some (.int v1), some (.int v2), some (.int s0), some (.int v4)]) (x := v4) (z := (v4 + 1)) (ls' := [some (.ref 82), some (.int v1), some (.int v2), some (.int s0), some (.int (v4 + 1))]) zd_180_99 rfl rfl rfl]
  rw [zs_goto (t := 60) zd_180_102 rfl]
  exact hk60 H
set_option maxRecDepth 20000 in
theorem zt_M_put_60 {a b L N : Nat} {k50 : zS → Int32 → Int32 → Option (Int32 × zS)} (hk50 : ∀ {σ : zS} {τ : zT} {v1 : Int32} {v2 : Int32} {o3 : Option Value} {o4 : Option Value} {r : Int32 × zS}, k50 σ v1 v2 = some r → zx_go 0 180 50 [some (.ref 82), some (.int v1), some (.int v2), o3, o4] [] ((119, a, b), zx_pk (zK L) 119, σ, τ, zR) = some (some (.int r.1), ((119, a, b), zx_pk (zK L) 119, r.2, τ, zR))) : ∀ {n : Nat} {σ : zS} {τ : zT} {v1 : Int32} {v2 : Int32} {v3 : Int32} {v4 : Int32} {r : Int32 × zS}, zb_M_put_60 k50 N n σ v1 v2 v3 v4 = some r → zx_go 0 180 60 [some (.ref 82), some (.int v1), some (.int v2), some (.int v3), some (.int v4)] [] ((119, a, b), zx_pk (zK L) 119, σ, τ, zR) = some (some (.int r.1), ((119, a, b), zx_pk (zK L) 119, r.2, τ, zR)) := by
  intro n
  induction n with
  | zero =>
    intro _ _ _ _ _ _ _ H
    cases H
  | succ n ih =>
    intro σ τ v1 v2 v3 v4 r H
    rw [zb_M_put_60] at H
    rw [zs_iload (ls := [some (.ref 82), some (.int v1), some (.int v2), some (.int v3), some (.int v4)]) zd_180_60 rfl]
    rw [zs_bipush (z := 40) zd_180_62 (by decide)]
    by_cases c11 : 40 ≤ v4
    · rw [if_pos c11] at H
      rw [zp_icmp_ge_t (x := v4) (y := 40) (t := 105) zd_180_64 rfl c11]
      exact zt_M_put_105 (hk50 := hk50) H
    · rw [if_neg c11] at H
      rw [zp_icmp_ge_f (x := v4) (y := 40) (t := 105) zd_180_64 rfl c11]
      rw [zs_iload_n (ls := [some (.ref 82), some (.int v1), some (.int v2), some (.int v3), some (.int v4)]) zd_180_67 rfl]
      by_cases c14 : v3 = 0
      · rw [if_pos c14] at H
        rw [zp_if_eq_t (x := v3) (t := 105) zd_180_68 rfl c14]
        exact zt_M_put_105 (hk50 := hk50) H
      · rw [if_neg c14] at H
        rw [zp_if_eq_f (x := v3) (t := 105) zd_180_68 rfl c14]
        rw [zs_aload_n (ls := [some (.ref 82), some (.int v1), some (.int v2), some (.int v3), some (.int v4)]) zd_180_71 rfl]
        rw [zs_getR (n := 119) (K := zx_pk (zK L) 119) (ρ := zR) (c := 12) (k := 48) (q := 82) (p := 108) zd_180_72 rfl rfl rfl (by decide) rfl]
        rw [zs_bipush (z := 40) zd_180_75 (by decide)]
        rw [zs_iload_n (ls := [some (.ref 82), some (.int v1), some (.int v2), some (.int v3), some (.int v4)]) zd_180_77 rfl]
        rw [zp_imul (x := 40) (y := v2) (z := (40 * v2)) zd_180_78 rfl]
        rw [zs_iload (ls := [some (.ref 82), some (.int v1), some (.int v2), some (.int v3), some (.int v4)]) zd_180_79 rfl]
        rw [zp_iadd (x := (40 * v2)) (y := v4) (z := ((40 * v2) + v4)) zd_180_81 rfl]
        by_cases c15 : 0 ≤ ((40 * v2) + v4) ∧ ((40 * v2) + v4) < 320000
        · rw [if_pos c15] at H
          rw [zp_baload (n := 119) (K := zx_pk (zK L) 119) (σ := σ) (q := 108) (m := 320000) (i := ((40 * v2) + v4)) (k := ((40 * v2) + v4).toNatClampNeg) (v := (σ 108 ((40 * v2) + v4).toNatClampNeg)) zd_180_82 rfl (by decide) (zJ_in c15 rfl) rfl rfl]
          rw [zs_aload_n (ls := [some (.ref 82), some (.int v1), some (.int v2), some (.int v3), some (.int v4)]) zd_180_83 rfl]
          rw [zs_getR (n := 119) (K := zx_pk (zK L) 119) (ρ := zR) (c := 12) (k := 47) (q := 82) (p := 107) zd_180_84 rfl rfl rfl (by decide) rfl]
          rw [zs_iload (ls := [some (.ref 82), some (.int v1), some (.int v2), some (.int v3), some (.int v4)]) zd_180_87 rfl]
          by_cases c16 : 0 ≤ v4 ∧ v4 < 40
          · rw [if_pos c16] at H
            rw [zp_iaload (n := 119) (K := zx_pk (zK L) 119) (σ := σ) (q := 107) (m := 40) (i := v4) (k := v4.toNatClampNeg) (v := (σ 107 v4.toNatClampNeg)) zd_180_89 rfl (by decide) (zJ_in c16 rfl) rfl rfl]
            by_cases c17 : ¬ (σ 108 ((40 * v2) + v4).toNatClampNeg) = (σ 107 v4.toNatClampNeg)
            · rw [if_pos c17] at H
              rw [zp_icmp_ne_t (x := (σ 108 ((40 * v2) + v4).toNatClampNeg)) (y := (σ 107 v4.toNatClampNeg)) (t := 97) zd_180_90 rfl c17]
              rw [zs_iconst (z := 0) zd_180_97 (by decide)]
              exact zt_M_put_98 (hk60 := ih) H
            · rw [if_neg c17] at H
              rw [zp_icmp_ne_f (x := (σ 108 ((40 * v2) + v4).toNatClampNeg)) (y := (σ 107 v4.toNatClampNeg)) (t := 97) zd_180_90 rfl c17]
              rw [zs_iconst (z := 1) zd_180_93 (by decide)]
              rw [zs_goto (t := 98) zd_180_94 rfl]
              exact zt_M_put_98 (hk60 := ih) H
          · rw [if_neg c16] at H
            cases H
        · rw [if_neg c15] at H
          cases H
set_option maxRecDepth 20000 in
theorem zt_M_put_50 {a b L N : Nat} : ∀ {n : Nat} {σ : zS} {τ : zT} {v1 : Int32} {v2 : Int32} {o3 : Option Value} {o4 : Option Value} {r : Int32 × zS}, zb_M_put_50 N n σ v1 v2 = some r → zx_go 0 180 50 [some (.ref 82), some (.int v1), some (.int v2), o3, o4] [] ((119, a, b), zx_pk (zK L) 119, σ, τ, zR) = some (some (.int r.1), ((119, a, b), zx_pk (zK L) 119, r.2, τ, zR)) := by
  intro n
  induction n with
  | zero =>
    intro _ _ _ _ _ _ _ H
    cases H
  | succ n ih =>
    intro σ τ v1 v2 o3 o4 r H
    rw [zb_M_put_50] at H
    rw [zs_iload_n (ls := [some (.ref 82), some (.int v1), some (.int v2), o3, o4]) zd_180_50 rfl]
    rw [zs_iconst (z := (-1)) zd_180_51 (by decide)]
    by_cases c3 : v2 = (-1)
    · rw [if_pos c3] at H
      rw [zp_icmp_eq_t (x := v2) (y := (-1)) (t := 121) zd_180_52 rfl c3]
      rw [zs_aload_n (ls := [some (.ref 82), some (.int v1), some (.int v2), o3, o4]) zd_180_121 rfl]
      rw [zp_getI (n := 119) (K := zx_pk (zK L) 119) (σ := σ) (c := 12) (k := 52) (q := 82) (v := (σ 82 52)) zd_180_122 rfl rfl rfl (by decide) rfl]
      rw [zs_sipush (z := 4000) zd_180_125 (by decide)]
      by_cases c4 : ¬ (σ 82 52) = 4000
      · rw [if_pos c4] at H
        rw [zp_icmp_ne_t (x := (σ 82 52)) (y := 4000) (t := 133) zd_180_128 rfl c4]
        rw [zs_aload_n (ls := [some (.ref 82), some (.int v1), some (.int v2), o3, o4]) zd_180_133 rfl]
        rw [zp_getI (n := 119) (K := zx_pk (zK L) 119) (σ := σ) (c := 12) (k := 51) (q := 82) (v := (σ 82 51)) zd_180_134 rfl rfl rfl (by decide) rfl]
        rw [zs_aload_n (ls := [some (.ref 82), some (.int v1), some (.int v2), o3, o4]) zd_180_137 rfl]
        rw [zp_getI (n := 119) (K := zx_pk (zK L) 119) (σ := σ) (c := 12) (k := 52) (q := 82) (v := (σ 82 52)) zd_180_138 rfl rfl rfl (by decide) rfl]
        rw [zp_iadd (x := (σ 82 51)) (y := (σ 82 52)) (z := ((σ 82 51) + (σ 82 52))) zd_180_141 rfl]
        rw [zs_istore_n (x := ((σ 82 51) + (σ 82 52))) (ls' := [some (.ref 82), some (.int v1), some (.int ((σ 82 51) + (σ 82 52))), o3, o4]) zd_180_142 (Nat.le_of_ble_eq_true rfl) rfl]
        rw [zs_iconst (z := 0) zd_180_143 (by decide)]
        rw [zs_istore_n (x := 0) (ls' := [some (.ref 82), some (.int v1), some (.int ((σ 82 51) + (σ 82 52))), some (.int 0), o4]) zd_180_144 (Nat.le_of_ble_eq_true rfl) rfl]
        exact zt_M_put_145  H
      · rw [if_neg c4] at H
        rw [zp_icmp_ne_f (x := (σ 82 52)) (y := 4000) (t := 133) zd_180_128 rfl c4]
        rw [zs_iconst (z := (-1)) zd_180_131 (by decide)]
        have H := Option.some.inj H
        subst H
        exact zs_ireturn zd_180_132 (by decide +kernel)
    · rw [if_neg c3] at H
      rw [zp_icmp_eq_f (x := v2) (y := (-1)) (t := 121) zd_180_52 rfl c3]
      rw [zs_iconst (z := 1) zd_180_55 (by decide)]
      rw [zs_istore_n (x := 1) (ls' := [some (.ref 82), some (.int v1), some (.int v2), some (.int 1), o4]) zd_180_56 (Nat.le_of_ble_eq_true rfl) rfl]
      rw [zs_iconst (z := 0) zd_180_57 (by decide)]
      rw [zs_istore (x := 0) (ls' := [some (.ref 82), some (.int v1), some (.int v2), some (.int 1), some (.int 0)]) zd_180_58 (Nat.le_of_ble_eq_true rfl) rfl]
      exact zt_M_put_60 (hk50 := ih) H
set_option maxRecDepth 20000 in
theorem zt_M_put_5 {a b L N : Nat} : ∀ {n : Nat} {σ : zS} {τ : zT} {v1 : Int32} {v2 : Int32} {o3 : Option Value} {o4 : Option Value} {r : Int32 × zS}, zb_M_put_5 N n σ v1 v2 = some r → zx_go 0 180 5 [some (.ref 82), some (.int v1), some (.int v2), o3, o4] [] ((119, a, b), zx_pk (zK L) 119, σ, τ, zR) = some (some (.int r.1), ((119, a, b), zx_pk (zK L) 119, r.2, τ, zR)) := by
  intro n
  induction n with
  | zero =>
    intro _ _ _ _ _ _ _ H
    cases H
  | succ n ih =>
    intro σ τ v1 v2 o3 o4 r H
    rw [zb_M_put_5] at H
    rw [zs_iload_n (ls := [some (.ref 82), some (.int v1), some (.int v2), o3, o4]) zd_180_5 rfl]
    rw [zs_bipush (z := 40) zd_180_6 (by decide)]
    by_cases c1 : 40 ≤ v2
    · rw [if_pos c1] at H
      rw [zp_icmp_ge_t (x := v2) (y := 40) (t := 37) zd_180_8 rfl c1]
      rw [zs_iload_n (ls := [some (.ref 82), some (.int v1), some (.int v2), o3, o4]) zd_180_37 rfl]
      rw [zs_sipush (z := 8191) zd_180_38 (by decide)]
      rw [zp_iand (x := v1) (y := 8191) (z := (v1 &&& 8191)) zd_180_41 rfl]
      rw [zs_istore_n (x := (v1 &&& 8191)) (ls' := [some (.ref 82), some (.int (v1 &&& 8191)), some (.int v2), o3, o4]) zd_180_42 (Nat.le_of_ble_eq_true rfl) rfl]
      rw [zs_aload_n (ls := [some (.ref 82), some (.int (v1 &&& 8191)), some (.int v2), o3, o4]) zd_180_43 rfl]
      rw [zs_getR (n := 119) (K := zx_pk (zK L) 119) (ρ := zR) (c := 12) (k := 49) (q := 82) (p := 109) zd_180_44 rfl rfl rfl (by decide) rfl]
      rw [zs_iload_n (ls := [some (.ref 82), some (.int (v1 &&& 8191)), some (.int v2), o3, o4]) zd_180_47 rfl]
      by_cases c2 : 0 ≤ (v1 &&& 8191) ∧ (v1 &&& 8191) < 8192
      · rw [if_pos c2] at H
        rw [zp_iaload (n := 119) (K := zx_pk (zK L) 119) (σ := σ) (q := 109) (m := 8192) (i := (v1 &&& 8191)) (k := (v1 &&& 8191).toNatClampNeg) (v := (σ 109 (v1 &&& 8191).toNatClampNeg)) zd_180_48 rfl (by decide) (zJ_in c2 rfl) rfl rfl]
        rw [zs_istore_n (x := (σ 109 (v1 &&& 8191).toNatClampNeg)) (ls' := [some (.ref 82), some (.int (v1 &&& 8191)), some (.int (σ 109 (v1 &&& 8191).toNatClampNeg)), o3, o4]) zd_180_49 (Nat.le_of_ble_eq_true rfl) rfl]
        exact zt_M_put_50  H
      · rw [if_neg c2] at H
        cases H
    · rw [if_neg c1] at H
      rw [zp_icmp_ge_f (x := v2) (y := 40) (t := 37) zd_180_8 rfl c1]
      rw [zs_iload_n (ls := [some (.ref 82), some (.int v1), some (.int v2), o3, o4]) zd_180_11 rfl]
      rw [zs_aload_n (ls := [some (.ref 82), some (.int v1), some (.int v2), o3, o4]) zd_180_12 rfl]
      rw [zs_getR (n := 119) (K := zx_pk (zK L) 119) (ρ := zR) (c := 12) (k := 47) (q := 82) (p := 107) zd_180_13 rfl rfl rfl (by decide) rfl]
      rw [zs_iload_n (ls := [some (.ref 82), some (.int v1), some (.int v2), o3, o4]) zd_180_16 rfl]
      by_cases c18 : 0 ≤ v2 ∧ v2 < 40
      · rw [if_pos c18] at H
        rw [zp_iaload (n := 119) (K := zx_pk (zK L) 119) (σ := σ) (q := 107) (m := 40) (i := v2) (k := v2.toNatClampNeg) (v := (σ 107 v2.toNatClampNeg)) zd_180_17 rfl (by decide) (zJ_in c18 rfl) rfl rfl]
        rw [zp_ixor (x := v1) (y := (σ 107 v2.toNatClampNeg)) (z := (v1 ^^^ (σ 107 v2.toNatClampNeg))) zd_180_18 rfl]
        rw [zs_ldcw (x := (-1640531535)) zd_180_19 rfl]
        rw [zp_imul (x := (v1 ^^^ (σ 107 v2.toNatClampNeg))) (y := (-1640531535)) (z := ((v1 ^^^ (σ 107 v2.toNatClampNeg)) * (-1640531535))) zd_180_22 rfl]
        rw [zs_istore_n (x := ((v1 ^^^ (σ 107 v2.toNatClampNeg)) * (-1640531535))) (ls' := [some (.ref 82), some (.int ((v1 ^^^ (σ 107 v2.toNatClampNeg)) * (-1640531535))), some (.int v2), o3, o4]) zd_180_23 (Nat.le_of_ble_eq_true rfl) rfl]
        rw [zs_iload_n (ls := [some (.ref 82), some (.int ((v1 ^^^ (σ 107 v2.toNatClampNeg)) * (-1640531535))), some (.int v2), o3, o4]) zd_180_24 rfl]
        rw [zs_iload_n (ls := [some (.ref 82), some (.int ((v1 ^^^ (σ 107 v2.toNatClampNeg)) * (-1640531535))), some (.int v2), o3, o4]) zd_180_25 rfl]
        rw [zs_bipush (z := 15) zd_180_26 (by decide)]
        rw [zp_iushr (x := ((v1 ^^^ (σ 107 v2.toNatClampNeg)) * (-1640531535))) (y := 15) (z := (zJ_ushr ((v1 ^^^ (σ 107 v2.toNatClampNeg)) * (-1640531535)) 15)) zd_180_28 rfl]
        rw [zp_ixor (x := ((v1 ^^^ (σ 107 v2.toNatClampNeg)) * (-1640531535))) (y := (zJ_ushr ((v1 ^^^ (σ 107 v2.toNatClampNeg)) * (-1640531535)) 15)) (z := (((v1 ^^^ (σ 107 v2.toNatClampNeg)) * (-1640531535)) ^^^ (zJ_ushr ((v1 ^^^ (σ 107 v2.toNatClampNeg)) * (-1640531535)) 15))) zd_180_29 rfl]
        rw [zs_istore_n (x := (((v1 ^^^ (σ 107 v2.toNatClampNeg)) * (-1640531535)) ^^^ (zJ_ushr ((v1 ^^^ (σ 107 v2.toNatClampNeg)) * (-1640531535)) 15))) (ls' := [some (.ref 82), some (.int (((v1 ^^^ (σ 107 v2.toNatClampNeg)) * (-1640531535)) ^^^ (zJ_ushr ((v1 ^^^ (σ 107 v2.toNatClampNeg)) * (-1640531535)) 15))), some (.int v2), o3, o4]) zd_180_30 (Nat.le_of_ble_eq_true rfl) rfl]
        rw [zs_iinc (ls := [some (.ref 82), some (.int (((v1 ^^^ (σ 107 v2.toNatClampNeg)) * (-1640531535)) ^^^ (zJ_ushr ((v1 ^^^ (σ 107 v2.toNatClampNeg)) * (-1640531535)) 15))), some (.int v2), o3, o4]) (x := v2) (z := (v2 + 1)) (ls' := [some (.ref 82), some (.int (((v1 ^^^ (σ 107 v2.toNatClampNeg)) * (-1640531535)) ^^^ (zJ_ushr ((v1 ^^^ (σ 107 v2.toNatClampNeg)) * (-1640531535)) 15))), some (.int (v2 + 1)), o3, o4]) zd_180_31 rfl rfl rfl]
        rw [zs_goto (t := 5) zd_180_34 rfl]
        exact ih H
      · rw [if_neg c18] at H
        cases H
set_option maxRecDepth 20000 in
theorem zt_M_put {a b L N : Nat} {σ : zS} {τ : zT} {r : Int32 × zS} (H : zf_M_put N σ = some r) : zx_go 0 180 0 [some (.ref 82), none, none, none, none] [] ((119, a, b), zx_pk (zK L) 119, σ, τ, zR) = some (some (.int r.1), ((119, a, b), zx_pk (zK L) 119, r.2, τ, zR)) := by
  unfold zf_M_put at H
  rw [zs_bipush (z := 7) zd_180_0 (by decide)]
  rw [zs_istore_n (x := 7) (ls' := [some (.ref 82), some (.int 7), none, none, none]) zd_180_2 (Nat.le_of_ble_eq_true rfl) rfl]
  rw [zs_iconst (z := 0) zd_180_3 (by decide)]
  rw [zs_istore_n (x := 0) (ls' := [some (.ref 82), some (.int 7), some (.int 0), none, none]) zd_180_4 (Nat.le_of_ble_eq_true rfl) rfl]
  exact zt_M_put_5  H
set_option maxRecDepth 20000 in
theorem zt_M_load_2 {a b L N : Nat} : ∀ {n : Nat} {σ : zS} {τ : zT} {v1 : Int32} {v2 : Int32} {r : zS}, zb_M_load_2 N n σ v1 v2 = some r → zx_go 0 181 2 [some (.ref 82), some (.int v1), some (.int v2)] [] ((119, a, b), zx_pk (zK L) 119, σ, τ, zR) = some (none, ((119, a, b), zx_pk (zK L) 119, r, τ, zR)) := by
  intro n
  induction n with
  | zero =>
    intro _ _ _ _ _ H
    cases H
  | succ n ih =>
    intro σ τ v1 v2 r H
    rw [zb_M_load_2] at H
    rw [zs_iload_n (ls := [some (.ref 82), some (.int v1), some (.int v2)]) zd_181_2 rfl]
    rw [zs_bipush (z := 40) zd_181_3 (by decide)]
    by_cases c1 : 40 ≤ v2
    · rw [if_pos c1] at H
      rw [zp_icmp_ge_t (x := v2) (y := 40) (t := 31) zd_181_5 rfl c1]
      have H := Option.some.inj H
      subst H
      exact zs_return zd_181_31 (by decide +kernel)
    · rw [if_neg c1] at H
      rw [zp_icmp_ge_f (x := v2) (y := 40) (t := 31) zd_181_5 rfl c1]
      rw [zs_aload_n (ls := [some (.ref 82), some (.int v1), some (.int v2)]) zd_181_8 rfl]
      rw [zs_getR (n := 119) (K := zx_pk (zK L) 119) (ρ := zR) (c := 12) (k := 47) (q := 82) (p := 107) zd_181_9 rfl rfl rfl (by decide) rfl]
      rw [zs_iload_n (ls := [some (.ref 82), some (.int v1), some (.int v2)]) zd_181_12 rfl]
      rw [zs_aload_n (ls := [some (.ref 82), some (.int v1), some (.int v2)]) zd_181_13 rfl]
      rw [zs_getR (n := 119) (K := zx_pk (zK L) 119) (ρ := zR) (c := 12) (k := 48) (q := 82) (p := 108) zd_181_14 rfl rfl rfl (by decide) rfl]
      rw [zs_bipush (z := 40) zd_181_17 (by decide)]
      rw [zs_iload_n (ls := [some (.ref 82), some (.int v1), some (.int v2)]) zd_181_19 rfl]
      rw [zp_imul (x := 40) (y := v1) (z := (40 * v1)) zd_181_20 rfl]
      rw [zs_iload_n (ls := [some (.ref 82), some (.int v1), some (.int v2)]) zd_181_21 rfl]
      rw [zp_iadd (x := (40 * v1)) (y := v2) (z := ((40 * v1) + v2)) zd_181_22 rfl]
      by_cases c2 : 0 ≤ ((40 * v1) + v2) ∧ ((40 * v1) + v2) < 320000
      · rw [if_pos c2] at H
        rw [zp_baload (n := 119) (K := zx_pk (zK L) 119) (σ := σ) (q := 108) (m := 320000) (i := ((40 * v1) + v2)) (k := ((40 * v1) + v2).toNatClampNeg) (v := (σ 108 ((40 * v1) + v2).toNatClampNeg)) zd_181_23 rfl (by decide) (zJ_in c2 rfl) rfl rfl]
        by_cases c3 : 0 ≤ v2 ∧ v2 < 40
        · rw [if_pos c3] at H
          rw [zp_iastore (n := 119) (K := zx_pk (zK L) 119) (q := 107) (m := 40) (i := v2) (k := v2.toNatClampNeg) (x := (σ 108 ((40 * v1) + v2).toNatClampNeg)) (z := (σ 108 ((40 * v1) + v2).toNatClampNeg)) zd_181_24 rfl ⟨by decide, by decide⟩ (zJ_in c3 rfl) rfl rfl]
          rw [zs_iinc (ls := [some (.ref 82), some (.int v1), some (.int v2)]) (x := v2) (z := (v2 + 1)) (ls' := [some (.ref 82), some (.int v1), some (.int (v2 + 1))]) zd_181_25 rfl rfl rfl]
          rw [zs_goto (t := 2) zd_181_28 rfl]
          exact ih H
        · rw [if_neg c3] at H
          cases H
      · rw [if_neg c2] at H
        cases H
set_option maxRecDepth 20000 in
theorem zt_M_load {a b L N : Nat} {σ : zS} {τ : zT} {x1 : Int32} {r : zS} (H : zf_M_load N σ x1 = some r) : zx_go 0 181 0 [some (.ref 82), some (.int x1), none] [] ((119, a, b), zx_pk (zK L) 119, σ, τ, zR) = some (none, ((119, a, b), zx_pk (zK L) 119, r, τ, zR)) := by
  unfold zf_M_load at H
  rw [zs_iconst (z := 0) zd_181_0 (by decide)]
  rw [zs_istore_n (x := 0) (ls' := [some (.ref 82), some (.int x1), some (.int 0)]) zd_181_1 (Nat.le_of_ble_eq_true rfl) rfl]
  exact zt_M_load_2  H
set_option maxRecDepth 20000 in
theorem zt_M_stateOf {a b L : Nat} {σ : zS} {τ : zT} {x1 : Int32} {r : Int32} (H : zf_M_stateOf σ x1 = some r) : zx_go 1 183 0 [some (.ref 82), some (.int x1)] [] ((119, a, b), zx_pk (zK L) 119, σ, τ, zR) = some (some (.int r), ((119, a, b), zx_pk (zK L) 119, σ, τ, zR)) := by
  unfold zf_M_stateOf at H
  rw [zs_aload_n (ls := [some (.ref 82), some (.int x1)]) zd_183_0 rfl]
  rw [zs_getR (n := 119) (K := zx_pk (zK L) 119) (ρ := zR) (c := 12) (k := 47) (q := 82) (p := 107) zd_183_1 rfl rfl rfl (by decide) rfl]
  rw [zs_aload_n (ls := [some (.ref 82), some (.int x1)]) zd_183_4 rfl]
  rw [zs_iload_n (ls := [some (.ref 82), some (.int x1)]) zd_183_5 rfl]
  obtain ⟨r1, hr1, H⟩ := Option.bind_eq_some_iff.mp H
  rw [zp_callVi (x := r1) (st := [.int x1, .ref 82, .ref 107]) (as := [.ref 82, .int x1]) (rest := [.ref 107]) (e := 0) zd_183_6 rfl (by decide +kernel) (by decide) rfl rfl (Nat.le_of_ble_eq_true rfl) (zx_rcb_ok rfl (show 82 < 119 by decide)) (Nat.le_of_ble_eq_true rfl) rfl (by decide) (zt_M_at hr1)]
  rw [zs_iconst (z := 1) zd_183_9 (by decide)]
  rw [zp_iadd (x := r1) (y := 1) (z := (r1 + 1)) zd_183_10 rfl]
  by_cases c2 : 0 ≤ (r1 + 1) ∧ (r1 + 1) < 40
  · rw [if_pos c2] at H
    rw [zp_iaload (n := 119) (K := zx_pk (zK L) 119) (σ := σ) (q := 107) (m := 40) (i := (r1 + 1)) (k := (r1 + 1).toNatClampNeg) (v := (σ 107 (r1 + 1).toNatClampNeg)) zd_183_11 rfl (by decide) (zJ_in c2 rfl) rfl rfl]
    have H := Option.some.inj H
    subst H
    exact zs_ireturn zd_183_12 rfl
  · rw [if_neg c2] at H
    cases H
set_option maxRecDepth 20000 in
theorem zt_M_touches_19 {a b L : Nat} {σ : zS} {τ : zT} {o0 : Option Value} {o1 : Option Value} {r : Int32} (H : zb_M_touches_19 σ = some r) : zx_go 0 185 19 [o0, o1] [] ((119, a, b), zx_pk (zK L) 119, σ, τ, zR) = some (some (.int r), ((119, a, b), zx_pk (zK L) 119, σ, τ, zR)) := by
  unfold zb_M_touches_19 at H
  rw [zs_iconst (z := 1) zd_185_19 (by decide)]
  rw [zs_goto (t := 24) zd_185_20 rfl]
  have H := Option.some.inj H
  subst H
  exact zs_ireturn zd_185_24 (by decide +kernel)
set_option maxRecDepth 20000 in
theorem zt_M_touches {a b L : Nat} {σ : zS} {τ : zT} {x1 : Int32} {r : Int32} (H : zf_M_touches σ x1 = some r) : zx_go 0 185 0 [some (.ref 82), some (.int x1)] [] ((119, a, b), zx_pk (zK L) 119, σ, τ, zR) = some (some (.int r), ((119, a, b), zx_pk (zK L) 119, σ, τ, zR)) := by
  unfold zf_M_touches at H
  rw [zs_aload_n (ls := [some (.ref 82), some (.int x1)]) zd_185_0 rfl]
  rw [zs_getR (n := 119) (K := zx_pk (zK L) 119) (ρ := zR) (c := 12) (k := 27) (q := 82) (p := 92) zd_185_1 rfl rfl rfl (by decide) rfl]
  rw [zs_iload_n (ls := [some (.ref 82), some (.int x1)]) zd_185_4 rfl]
  by_cases c1 : 0 ≤ x1 ∧ x1 < 96
  · rw [if_pos c1] at H
    rw [zp_iaload (n := 119) (K := zx_pk (zK L) 119) (σ := σ) (q := 92) (m := 96) (i := x1) (k := x1.toNatClampNeg) (v := (σ 92 x1.toNatClampNeg)) zd_185_5 rfl (by decide) (zJ_in c1 rfl) rfl rfl]
    by_cases c2 : (σ 92 x1.toNatClampNeg) = 0
    · rw [if_pos c2] at H
      rw [zp_if_eq_t (x := (σ 92 x1.toNatClampNeg)) (t := 19) zd_185_6 rfl c2]
      exact zt_M_touches_19  H
    · rw [if_neg c2] at H
      rw [zp_if_eq_f (x := (σ 92 x1.toNatClampNeg)) (t := 19) zd_185_6 rfl c2]
      rw [zs_aload_n (ls := [some (.ref 82), some (.int x1)]) zd_185_9 rfl]
      rw [zs_getR (n := 119) (K := zx_pk (zK L) 119) (ρ := zR) (c := 12) (k := 27) (q := 82) (p := 92) zd_185_10 rfl rfl rfl (by decide) rfl]
      rw [zs_iload_n (ls := [some (.ref 82), some (.int x1)]) zd_185_13 rfl]
      by_cases c3 : 0 ≤ x1 ∧ x1 < 96
      · rw [if_pos c3] at H
        rw [zp_iaload (n := 119) (K := zx_pk (zK L) 119) (σ := σ) (q := 92) (m := 96) (i := x1) (k := x1.toNatClampNeg) (v := (σ 92 x1.toNatClampNeg)) zd_185_14 rfl (by decide) (zJ_in c3 rfl) rfl rfl]
        rw [zs_iconst (z := 1) zd_185_15 (by decide)]
        by_cases c4 : ¬ (σ 92 x1.toNatClampNeg) = 1
        · rw [if_pos c4] at H
          rw [zp_icmp_ne_t (x := (σ 92 x1.toNatClampNeg)) (y := 1) (t := 23) zd_185_16 rfl c4]
          rw [zs_iconst (z := 0) zd_185_23 (by decide)]
          have H := Option.some.inj H
          subst H
          exact zs_ireturn zd_185_24 (by decide +kernel)
        · rw [if_neg c4] at H
          rw [zp_icmp_ne_f (x := (σ 92 x1.toNatClampNeg)) (y := 1) (t := 23) zd_185_16 rfl c4]
          exact zt_M_touches_19  H
      · rw [if_neg c3] at H
        cases H
  · rw [if_neg c1] at H
    cases H
set_option maxRecDepth 20000 in
theorem zt_M_wouldRace_65 {a b L : Nat} {σ : zS} {τ : zT} {o0 : Option Value} {o1 : Option Value} {o2 : Option Value} {r : Int32} (H : zb_M_wouldRace_65 σ = some r) : zx_go 1 184 65 [o0, o1, o2] [] ((119, a, b), zx_pk (zK L) 119, σ, τ, zR) = some (some (.int r), ((119, a, b), zx_pk (zK L) 119, σ, τ, zR)) := by
  unfold zb_M_wouldRace_65 at H
  rw [zs_iconst (z := 1) zd_184_65 (by decide)]
  rw [zs_goto (t := 70) zd_184_66 rfl]
  have H := Option.some.inj H
  subst H
  exact zs_ireturn zd_184_70 (by decide +kernel)
set_option maxRecDepth 20000 in
theorem zt_M_wouldRace {a b L : Nat} {σ : zS} {τ : zT} {x1 : Int32} {x2 : Int32} {r : Int32} (H : zf_M_wouldRace σ x1 x2 = some r) : zx_go 1 184 0 [some (.ref 82), some (.int x1), some (.int x2)] [] ((119, a, b), zx_pk (zK L) 119, σ, τ, zR) = some (some (.int r), ((119, a, b), zx_pk (zK L) 119, σ, τ, zR)) := by
  unfold zf_M_wouldRace at H
  rw [zs_aload_n (ls := [some (.ref 82), some (.int x1), some (.int x2)]) zd_184_0 rfl]
  rw [zs_iload_n (ls := [some (.ref 82), some (.int x1), some (.int x2)]) zd_184_1 rfl]
  obtain ⟨r1, hr1, H⟩ := Option.bind_eq_some_iff.mp H
  rw [zp_callVi (x := r1) (st := [.int x1, .ref 82]) (as := [.ref 82, .int x1]) (rest := []) (e := 0) zd_184_2 rfl (by decide +kernel) (by decide) rfl rfl (Nat.le_of_ble_eq_true rfl) (zx_rcb_ok rfl (show 82 < 119 by decide)) (Nat.le_of_ble_eq_true rfl) rfl (by decide) (zt_M_touches hr1)]
  by_cases c2 : r1 = 0
  · rw [if_pos c2] at H
    rw [zp_if_eq_t (x := r1) (t := 69) zd_184_5 rfl c2]
    rw [zs_iconst (z := 0) zd_184_69 (by decide)]
    have H := Option.some.inj H
    subst H
    exact zs_ireturn zd_184_70 (by decide +kernel)
  · rw [if_neg c2] at H
    rw [zp_if_eq_f (x := r1) (t := 69) zd_184_5 rfl c2]
    rw [zs_aload_n (ls := [some (.ref 82), some (.int x1), some (.int x2)]) zd_184_8 rfl]
    rw [zs_iload_n (ls := [some (.ref 82), some (.int x1), some (.int x2)]) zd_184_9 rfl]
    obtain ⟨r3, hr3, H⟩ := Option.bind_eq_some_iff.mp H
    rw [zp_callVi (x := r3) (st := [.int x2, .ref 82]) (as := [.ref 82, .int x2]) (rest := []) (e := 0) zd_184_10 rfl (by decide +kernel) (by decide) rfl rfl (Nat.le_of_ble_eq_true rfl) (zx_rcb_ok rfl (show 82 < 119 by decide)) (Nat.le_of_ble_eq_true rfl) rfl (by decide) (zt_M_touches hr3)]
    by_cases c4 : r3 = 0
    · rw [if_pos c4] at H
      rw [zp_if_eq_t (x := r3) (t := 69) zd_184_13 rfl c4]
      rw [zs_iconst (z := 0) zd_184_69 (by decide)]
      have H := Option.some.inj H
      subst H
      exact zs_ireturn zd_184_70 (by decide +kernel)
    · rw [if_neg c4] at H
      rw [zp_if_eq_f (x := r3) (t := 69) zd_184_13 rfl c4]
      rw [zs_aload_n (ls := [some (.ref 82), some (.int x1), some (.int x2)]) zd_184_16 rfl]
      rw [zs_getR (n := 119) (K := zx_pk (zK L) 119) (ρ := zR) (c := 12) (k := 28) (q := 82) (p := 93) zd_184_17 rfl rfl rfl (by decide) rfl]
      rw [zs_iload_n (ls := [some (.ref 82), some (.int x1), some (.int x2)]) zd_184_20 rfl]
      by_cases c5 : 0 ≤ x1 ∧ x1 < 96
      · rw [if_pos c5] at H
        rw [zp_iaload (n := 119) (K := zx_pk (zK L) 119) (σ := σ) (q := 93) (m := 96) (i := x1) (k := x1.toNatClampNeg) (v := (σ 93 x1.toNatClampNeg)) zd_184_21 rfl (by decide) (zJ_in c5 rfl) rfl rfl]
        rw [zs_aload_n (ls := [some (.ref 82), some (.int x1), some (.int x2)]) zd_184_22 rfl]
        rw [zs_getR (n := 119) (K := zx_pk (zK L) 119) (ρ := zR) (c := 12) (k := 28) (q := 82) (p := 93) zd_184_23 rfl rfl rfl (by decide) rfl]
        rw [zs_iload_n (ls := [some (.ref 82), some (.int x1), some (.int x2)]) zd_184_26 rfl]
        by_cases c6 : 0 ≤ x2 ∧ x2 < 96
        · rw [if_pos c6] at H
          rw [zp_iaload (n := 119) (K := zx_pk (zK L) 119) (σ := σ) (q := 93) (m := 96) (i := x2) (k := x2.toNatClampNeg) (v := (σ 93 x2.toNatClampNeg)) zd_184_27 rfl (by decide) (zJ_in c6 rfl) rfl rfl]
          by_cases c7 : ¬ (σ 93 x1.toNatClampNeg) = (σ 93 x2.toNatClampNeg)
          · rw [if_pos c7] at H
            rw [zp_icmp_ne_t (x := (σ 93 x1.toNatClampNeg)) (y := (σ 93 x2.toNatClampNeg)) (t := 69) zd_184_28 rfl c7]
            rw [zs_iconst (z := 0) zd_184_69 (by decide)]
            have H := Option.some.inj H
            subst H
            exact zs_ireturn zd_184_70 (by decide +kernel)
          · rw [if_neg c7] at H
            rw [zp_icmp_ne_f (x := (σ 93 x1.toNatClampNeg)) (y := (σ 93 x2.toNatClampNeg)) (t := 69) zd_184_28 rfl c7]
            rw [zs_aload_n (ls := [some (.ref 82), some (.int x1), some (.int x2)]) zd_184_31 rfl]
            rw [zs_getR (n := 119) (K := zx_pk (zK L) 119) (ρ := zR) (c := 12) (k := 22) (q := 82) (p := 88) zd_184_32 rfl rfl rfl (by decide) rfl]
            rw [zs_aload_n (ls := [some (.ref 82), some (.int x1), some (.int x2)]) zd_184_35 rfl]
            rw [zs_getR (n := 119) (K := zx_pk (zK L) 119) (ρ := zR) (c := 12) (k := 28) (q := 82) (p := 93) zd_184_36 rfl rfl rfl (by decide) rfl]
            rw [zs_iload_n (ls := [some (.ref 82), some (.int x1), some (.int x2)]) zd_184_39 rfl]
            by_cases c8 : 0 ≤ x1 ∧ x1 < 96
            · rw [if_pos c8] at H
              rw [zp_iaload (n := 119) (K := zx_pk (zK L) 119) (σ := σ) (q := 93) (m := 96) (i := x1) (k := x1.toNatClampNeg) (v := (σ 93 x1.toNatClampNeg)) zd_184_40 rfl (by decide) (zJ_in c8 rfl) rfl rfl]
              by_cases c9 : 0 ≤ (σ 93 x1.toNatClampNeg) ∧ (σ 93 x1.toNatClampNeg) < 6
              · rw [if_pos c9] at H
                rw [zp_zaload (n := 119) (K := zx_pk (zK L) 119) (σ := σ) (q := 88) (m := 6) (i := (σ 93 x1.toNatClampNeg)) (k := (σ 93 x1.toNatClampNeg).toNatClampNeg) (v := (σ 88 (σ 93 x1.toNatClampNeg).toNatClampNeg)) zd_184_41 rfl (by decide) (zJ_in c9 rfl) rfl rfl]
                by_cases c10 : ¬ (σ 88 (σ 93 x1.toNatClampNeg).toNatClampNeg) = 0
                · rw [if_pos c10] at H
                  rw [zp_if_ne_t (x := (σ 88 (σ 93 x1.toNatClampNeg).toNatClampNeg)) (t := 69) zd_184_42 rfl c10]
                  rw [zs_iconst (z := 0) zd_184_69 (by decide)]
                  have H := Option.some.inj H
                  subst H
                  exact zs_ireturn zd_184_70 (by decide +kernel)
                · rw [if_neg c10] at H
                  rw [zp_if_ne_f (x := (σ 88 (σ 93 x1.toNatClampNeg).toNatClampNeg)) (t := 69) zd_184_42 rfl c10]
                  rw [zs_aload_n (ls := [some (.ref 82), some (.int x1), some (.int x2)]) zd_184_45 rfl]
                  rw [zs_getR (n := 119) (K := zx_pk (zK L) 119) (ρ := zR) (c := 12) (k := 27) (q := 82) (p := 92) zd_184_46 rfl rfl rfl (by decide) rfl]
                  rw [zs_iload_n (ls := [some (.ref 82), some (.int x1), some (.int x2)]) zd_184_49 rfl]
                  by_cases c11 : 0 ≤ x1 ∧ x1 < 96
                  · rw [if_pos c11] at H
                    rw [zp_iaload (n := 119) (K := zx_pk (zK L) 119) (σ := σ) (q := 92) (m := 96) (i := x1) (k := x1.toNatClampNeg) (v := (σ 92 x1.toNatClampNeg)) zd_184_50 rfl (by decide) (zJ_in c11 rfl) rfl rfl]
                    rw [zs_iconst (z := 1) zd_184_51 (by decide)]
                    by_cases c12 : (σ 92 x1.toNatClampNeg) = 1
                    · rw [if_pos c12] at H
                      rw [zp_icmp_eq_t (x := (σ 92 x1.toNatClampNeg)) (y := 1) (t := 65) zd_184_52 rfl c12]
                      exact zt_M_wouldRace_65  H
                    · rw [if_neg c12] at H
                      rw [zp_icmp_eq_f (x := (σ 92 x1.toNatClampNeg)) (y := 1) (t := 65) zd_184_52 rfl c12]
                      rw [zs_aload_n (ls := [some (.ref 82), some (.int x1), some (.int x2)]) zd_184_55 rfl]
                      rw [zs_getR (n := 119) (K := zx_pk (zK L) 119) (ρ := zR) (c := 12) (k := 27) (q := 82) (p := 92) zd_184_56 rfl rfl rfl (by decide) rfl]
                      rw [zs_iload_n (ls := [some (.ref 82), some (.int x1), some (.int x2)]) zd_184_59 rfl]
                      by_cases c13 : 0 ≤ x2 ∧ x2 < 96
                      · rw [if_pos c13] at H
                        rw [zp_iaload (n := 119) (K := zx_pk (zK L) 119) (σ := σ) (q := 92) (m := 96) (i := x2) (k := x2.toNatClampNeg) (v := (σ 92 x2.toNatClampNeg)) zd_184_60 rfl (by decide) (zJ_in c13 rfl) rfl rfl]
                        rw [zs_iconst (z := 1) zd_184_61 (by decide)]
                        by_cases c14 : ¬ (σ 92 x2.toNatClampNeg) = 1
                        · rw [if_pos c14] at H
                          rw [zp_icmp_ne_t (x := (σ 92 x2.toNatClampNeg)) (y := 1) (t := 69) zd_184_62 rfl c14]
                          rw [zs_iconst (z := 0) zd_184_69 (by decide)]
                          have H := Option.some.inj H
                          subst H
                          exact zs_ireturn zd_184_70 (by decide +kernel)
                        · rw [if_neg c14] at H
                          rw [zp_icmp_ne_f (x := (σ 92 x2.toNatClampNeg)) (y := 1) (t := 69) zd_184_62 rfl c14]
                          exact zt_M_wouldRace_65  H
                      · rw [if_neg c13] at H
                        cases H
                  · rw [if_neg c11] at H
                    cases H
              · rw [if_neg c9] at H
                cases H
            · rw [if_neg c8] at H
              cases H
        · rw [if_neg c6] at H
          cases H
      · rw [if_neg c5] at H
        cases H
set_option maxRecDepth 20000 in
theorem zt_M_lookForRaces_115 {a b L N : Nat} {k14 : zS → Int32 → Int32 → Int32 → Option (zS)} (hk14 : ∀ {σ : zS} {τ : zT} {v1 : Int32} {v2 : Int32} {v3 : Int32} {o4 : Option Value} {o5 : Option Value} {o6 : Option Value} {r : zS}, k14 σ v1 v2 v3 = some r → zx_go 2 182 14 [some (.ref 82), some (.int v1), some (.int v2), some (.int v3), o4, o5, o6] [] ((119, a, b), zx_pk (zK L) 119, σ, τ, zR) = some (none, ((119, a, b), zx_pk (zK L) 119, r, τ, zR))) {σ : zS} {τ : zT} {v1 : Int32} {v2 : Int32} {v3 : Int32} {o4 : Option Value} {o5 : Option Value} {o6 : Option Value} {r : zS} (H : zb_M_lookForRaces_115 k14 N σ v1 v2 v3 = some r) : zx_go 2 182 115 [some (.ref 82), some (.int v1), some (.int v2), some (.int v3), o4, o5, o6] [] ((119, a, b), zx_pk (zK L) 119, σ, τ, zR) = some (none, ((119, a, b), zx_pk (zK L) 119, r, τ, zR)) := by
  unfold zb_M_lookForRaces_115 at H
  rw [zs_iinc (ls := [some (.ref 82), some (.int v1), some (.int v2), some (.int v3), o4, o5, o6]) (x := v3) (z := (v3 + 1)) (ls' := [some (.ref 82), some (.int v1), some (.int v2), some (.int (v3 + 1)), o4, o5, o6]) zd_182_115 rfl rfl rfl]
  rw [zs_goto (t := 14) zd_182_118 rfl]
  exact hk14 H
set_option maxRecDepth 20000 in
theorem zt_M_lookForRaces_14 {a b L N : Nat} {k2 : zS → Int32 → Int32 → Option (zS)} (hk2 : ∀ {σ : zS} {τ : zT} {v1 : Int32} {v2 : Int32} {o3 : Option Value} {o4 : Option Value} {o5 : Option Value} {o6 : Option Value} {r : zS}, k2 σ v1 v2 = some r → zx_go 2 182 2 [some (.ref 82), some (.int v1), some (.int v2), o3, o4, o5, o6] [] ((119, a, b), zx_pk (zK L) 119, σ, τ, zR) = some (none, ((119, a, b), zx_pk (zK L) 119, r, τ, zR))) : ∀ {n : Nat} {σ : zS} {τ : zT} {v1 : Int32} {v2 : Int32} {v3 : Int32} {o4 : Option Value} {o5 : Option Value} {o6 : Option Value} {r : zS}, zb_M_lookForRaces_14 k2 N n σ v1 v2 v3 = some r → zx_go 2 182 14 [some (.ref 82), some (.int v1), some (.int v2), some (.int v3), o4, o5, o6] [] ((119, a, b), zx_pk (zK L) 119, σ, τ, zR) = some (none, ((119, a, b), zx_pk (zK L) 119, r, τ, zR)) := by
  intro n
  induction n with
  | zero =>
    intro _ _ _ _ _ _ _ _ _ H
    cases H
  | succ n ih =>
    intro σ τ v1 v2 v3 o4 o5 o6 r H
    rw [zb_M_lookForRaces_14] at H
    rw [zs_iload_n (ls := [some (.ref 82), some (.int v1), some (.int v2), some (.int v3), o4, o5, o6]) zd_182_14 rfl]
    rw [zs_aload_n (ls := [some (.ref 82), some (.int v1), some (.int v2), some (.int v3), o4, o5, o6]) zd_182_15 rfl]
    rw [zp_getI (n := 119) (K := zx_pk (zK L) 119) (σ := σ) (c := 12) (k := 17) (q := 82) (v := (σ 82 17)) zd_182_16 rfl rfl rfl (by decide) rfl]
    by_cases c2 : (σ 82 17) ≤ v3
    · rw [if_pos c2] at H
      rw [zp_icmp_ge_t (x := v3) (y := (σ 82 17)) (t := 121) zd_182_19 rfl c2]
      rw [zs_iinc (ls := [some (.ref 82), some (.int v1), some (.int v2), some (.int v3), o4, o5, o6]) (x := v2) (z := (v2 + 1)) (ls' := [some (.ref 82), some (.int v1), some (.int (v2 + 1)), some (.int v3), o4, o5, o6]) zd_182_121 rfl rfl rfl]
      rw [zs_goto (t := 2) zd_182_124 rfl]
      exact hk2 H
    · rw [if_neg c2] at H
      rw [zp_icmp_ge_f (x := v3) (y := (σ 82 17)) (t := 121) zd_182_19 rfl c2]
      rw [zs_aload_n (ls := [some (.ref 82), some (.int v1), some (.int v2), some (.int v3), o4, o5, o6]) zd_182_22 rfl]
      rw [zs_iload_n (ls := [some (.ref 82), some (.int v1), some (.int v2), some (.int v3), o4, o5, o6]) zd_182_23 rfl]
      obtain ⟨r3, hr3, H⟩ := Option.bind_eq_some_iff.mp H
      rw [zp_callVi (x := r3) (st := [.int v2, .ref 82]) (as := [.ref 82, .int v2]) (rest := []) (e := 1) zd_182_24 rfl (by decide +kernel) (by decide) rfl rfl (Nat.le_of_ble_eq_true rfl) (zx_rcb_ok rfl (show 82 < 119 by decide)) (Nat.le_of_ble_eq_true rfl) rfl (by decide) (zt_M_stateOf hr3)]
      rw [zs_iconst (z := 1) zd_182_27 (by decide)]
      by_cases c4 : ¬ r3 = 1
      · rw [if_pos c4] at H
        rw [zp_icmp_ne_t (x := r3) (y := 1) (t := 115) zd_182_28 rfl c4]
        exact zt_M_lookForRaces_115 (hk14 := ih) H
      · rw [if_neg c4] at H
        rw [zp_icmp_ne_f (x := r3) (y := 1) (t := 115) zd_182_28 rfl c4]
        rw [zs_aload_n (ls := [some (.ref 82), some (.int v1), some (.int v2), some (.int v3), o4, o5, o6]) zd_182_31 rfl]
        rw [zs_iload_n (ls := [some (.ref 82), some (.int v1), some (.int v2), some (.int v3), o4, o5, o6]) zd_182_32 rfl]
        obtain ⟨r5, hr5, H⟩ := Option.bind_eq_some_iff.mp H
        rw [zp_callVi (x := r5) (st := [.int v3, .ref 82]) (as := [.ref 82, .int v3]) (rest := []) (e := 1) zd_182_33 rfl (by decide +kernel) (by decide) rfl rfl (Nat.le_of_ble_eq_true rfl) (zx_rcb_ok rfl (show 82 < 119 by decide)) (Nat.le_of_ble_eq_true rfl) rfl (by decide) (zt_M_stateOf hr5)]
        rw [zs_iconst (z := 1) zd_182_36 (by decide)]
        by_cases c6 : ¬ r5 = 1
        · rw [if_pos c6] at H
          rw [zp_icmp_ne_t (x := r5) (y := 1) (t := 115) zd_182_37 rfl c6]
          exact zt_M_lookForRaces_115 (hk14 := ih) H
        · rw [if_neg c6] at H
          rw [zp_icmp_ne_f (x := r5) (y := 1) (t := 115) zd_182_37 rfl c6]
          rw [zs_bipush (z := 24) zd_182_40 (by decide)]
          rw [zs_iload_n (ls := [some (.ref 82), some (.int v1), some (.int v2), some (.int v3), o4, o5, o6]) zd_182_42 rfl]
          rw [zp_imul (x := 24) (y := v2) (z := (24 * v2)) zd_182_43 rfl]
          rw [zs_aload_n (ls := [some (.ref 82), some (.int v1), some (.int v2), some (.int v3), o4, o5, o6]) zd_182_44 rfl]
          rw [zs_getR (n := 119) (K := zx_pk (zK L) 119) (ρ := zR) (c := 12) (k := 47) (q := 82) (p := 107) zd_182_45 rfl rfl rfl (by decide) rfl]
          rw [zs_aload_n (ls := [some (.ref 82), some (.int v1), some (.int v2), some (.int v3), o4, o5, o6]) zd_182_48 rfl]
          rw [zs_iload_n (ls := [some (.ref 82), some (.int v1), some (.int v2), some (.int v3), o4, o5, o6]) zd_182_49 rfl]
          obtain ⟨r7, hr7, H⟩ := Option.bind_eq_some_iff.mp H
          rw [zp_callVi (x := r7) (st := [.int v2, .ref 82, .ref 107, .int (24 * v2)]) (as := [.ref 82, .int v2]) (rest := [.ref 107, .int (24 * v2)]) (e := 0) zd_182_50 rfl (by decide +kernel) (by decide) rfl rfl (Nat.le_of_ble_eq_true rfl) (zx_rcb_ok rfl (show 82 < 119 by decide)) (Nat.le_of_ble_eq_true rfl) rfl (by decide) (zt_M_at hr7)]
          by_cases c8 : 0 ≤ r7 ∧ r7 < 40
          · rw [if_pos c8] at H
            rw [zp_iaload (n := 119) (K := zx_pk (zK L) 119) (σ := σ) (q := 107) (m := 40) (i := r7) (k := r7.toNatClampNeg) (v := (σ 107 r7.toNatClampNeg)) zd_182_53 rfl (by decide) (zJ_in c8 rfl) rfl rfl]
            rw [zp_iadd (x := (24 * v2)) (y := (σ 107 r7.toNatClampNeg)) (z := ((24 * v2) + (σ 107 r7.toNatClampNeg))) zd_182_54 rfl]
            rw [zs_istore (x := ((24 * v2) + (σ 107 r7.toNatClampNeg))) (ls' := [some (.ref 82), some (.int v1), some (.int v2), some (.int v3), some (.int ((24 * v2) + (σ 107 r7.toNatClampNeg))), o5, o6]) zd_182_55 (Nat.le_of_ble_eq_true rfl) rfl]
            rw [zs_bipush (z := 24) zd_182_57 (by decide)]
            rw [zs_iload_n (ls := [some (.ref 82), some (.int v1), some (.int v2), some (.int v3), some (.int ((24 * v2) + (σ 107 r7.toNatClampNeg))), o5, o6]) zd_182_59 rfl]
            rw [zp_imul (x := 24) (y := v3) (z := (24 * v3)) zd_182_60 rfl]
            rw [zs_aload_n (ls := [some (.ref 82), some (.int v1), some (.int v2), some (.int v3), some (.int ((24 * v2) + (σ 107 r7.toNatClampNeg))), o5, o6]) zd_182_61 rfl]
            rw [zs_getR (n := 119) (K := zx_pk (zK L) 119) (ρ := zR) (c := 12) (k := 47) (q := 82) (p := 107) zd_182_62 rfl rfl rfl (by decide) rfl]
            rw [zs_aload_n (ls := [some (.ref 82), some (.int v1), some (.int v2), some (.int v3), some (.int ((24 * v2) + (σ 107 r7.toNatClampNeg))), o5, o6]) zd_182_65 rfl]
            rw [zs_iload_n (ls := [some (.ref 82), some (.int v1), some (.int v2), some (.int v3), some (.int ((24 * v2) + (σ 107 r7.toNatClampNeg))), o5, o6]) zd_182_66 rfl]
            obtain ⟨r9, hr9, H⟩ := Option.bind_eq_some_iff.mp H
            rw [zp_callVi (x := r9) (st := [.int v3, .ref 82, .ref 107, .int (24 * v3)]) (as := [.ref 82, .int v3]) (rest := [.ref 107, .int (24 * v3)]) (e := 0) zd_182_67 rfl (by decide +kernel) (by decide) rfl rfl (Nat.le_of_ble_eq_true rfl) (zx_rcb_ok rfl (show 82 < 119 by decide)) (Nat.le_of_ble_eq_true rfl) rfl (by decide) (zt_M_at hr9)]
            by_cases c10 : 0 ≤ r9 ∧ r9 < 40
            · rw [if_pos c10] at H
              rw [zp_iaload (n := 119) (K := zx_pk (zK L) 119) (σ := σ) (q := 107) (m := 40) (i := r9) (k := r9.toNatClampNeg) (v := (σ 107 r9.toNatClampNeg)) zd_182_70 rfl (by decide) (zJ_in c10 rfl) rfl rfl]
              rw [zp_iadd (x := (24 * v3)) (y := (σ 107 r9.toNatClampNeg)) (z := ((24 * v3) + (σ 107 r9.toNatClampNeg))) zd_182_71 rfl]
              rw [zs_istore (x := ((24 * v3) + (σ 107 r9.toNatClampNeg))) (ls' := [some (.ref 82), some (.int v1), some (.int v2), some (.int v3), some (.int ((24 * v2) + (σ 107 r7.toNatClampNeg))), some (.int ((24 * v3) + (σ 107 r9.toNatClampNeg))), o6]) zd_182_72 (Nat.le_of_ble_eq_true rfl) rfl]
              rw [zs_bipush (z := 96) zd_182_74 (by decide)]
              rw [zs_iload (ls := [some (.ref 82), some (.int v1), some (.int v2), some (.int v3), some (.int ((24 * v2) + (σ 107 r7.toNatClampNeg))), some (.int ((24 * v3) + (σ 107 r9.toNatClampNeg))), o6]) zd_182_76 rfl]
              rw [zp_imul (x := 96) (y := ((24 * v2) + (σ 107 r7.toNatClampNeg))) (z := (96 * ((24 * v2) + (σ 107 r7.toNatClampNeg)))) zd_182_78 rfl]
              rw [zs_iload (ls := [some (.ref 82), some (.int v1), some (.int v2), some (.int v3), some (.int ((24 * v2) + (σ 107 r7.toNatClampNeg))), some (.int ((24 * v3) + (σ 107 r9.toNatClampNeg))), o6]) zd_182_79 rfl]
              rw [zp_iadd (x := (96 * ((24 * v2) + (σ 107 r7.toNatClampNeg)))) (y := ((24 * v3) + (σ 107 r9.toNatClampNeg))) (z := ((96 * ((24 * v2) + (σ 107 r7.toNatClampNeg))) + ((24 * v3) + (σ 107 r9.toNatClampNeg)))) zd_182_81 rfl]
              rw [zs_istore (x := ((96 * ((24 * v2) + (σ 107 r7.toNatClampNeg))) + ((24 * v3) + (σ 107 r9.toNatClampNeg)))) (ls' := [some (.ref 82), some (.int v1), some (.int v2), some (.int v3), some (.int ((24 * v2) + (σ 107 r7.toNatClampNeg))), some (.int ((24 * v3) + (σ 107 r9.toNatClampNeg))), some (.int ((96 * ((24 * v2) + (σ 107 r7.toNatClampNeg))) + ((24 * v3) + (σ 107 r9.toNatClampNeg))))]) zd_182_82 (Nat.le_of_ble_eq_true rfl) rfl]
              rw [zs_aload_n (ls := [some (.ref 82), some (.int v1), some (.int v2), some (.int v3), some (.int ((24 * v2) + (σ 107 r7.toNatClampNeg))), some (.int ((24 * v3) + (σ 107 r9.toNatClampNeg))), some (.int ((96 * ((24 * v2) + (σ 107 r7.toNatClampNeg))) + ((24 * v3) + (σ 107 r9.toNatClampNeg))))]) zd_182_84 rfl]
              rw [zs_iload (ls := [some (.ref 82), some (.int v1), some (.int v2), some (.int v3), some (.int ((24 * v2) + (σ 107 r7.toNatClampNeg))), some (.int ((24 * v3) + (σ 107 r9.toNatClampNeg))), some (.int ((96 * ((24 * v2) + (σ 107 r7.toNatClampNeg))) + ((24 * v3) + (σ 107 r9.toNatClampNeg))))]) zd_182_85 rfl]
              rw [zs_iload (ls := [some (.ref 82), some (.int v1), some (.int v2), some (.int v3), some (.int ((24 * v2) + (σ 107 r7.toNatClampNeg))), some (.int ((24 * v3) + (σ 107 r9.toNatClampNeg))), some (.int ((96 * ((24 * v2) + (σ 107 r7.toNatClampNeg))) + ((24 * v3) + (σ 107 r9.toNatClampNeg))))]) zd_182_87 rfl]
              obtain ⟨r11, hr11, H⟩ := Option.bind_eq_some_iff.mp H
              rw [zp_callVi (x := r11) (st := [.int ((24 * v3) + (σ 107 r9.toNatClampNeg)), .int ((24 * v2) + (σ 107 r7.toNatClampNeg)), .ref 82]) (as := [.ref 82, .int ((24 * v2) + (σ 107 r7.toNatClampNeg)), .int ((24 * v3) + (σ 107 r9.toNatClampNeg))]) (rest := []) (e := 1) zd_182_89 rfl (by decide +kernel) (by decide) rfl rfl (Nat.le_of_ble_eq_true rfl) (zx_rcb_ok rfl (show 82 < 119 by decide)) (Nat.le_of_ble_eq_true rfl) rfl (by decide) (zt_M_wouldRace hr11)]
              by_cases c12 : r11 = 0
              · rw [if_pos c12] at H
                rw [zp_if_eq_t (x := r11) (t := 115) zd_182_92 rfl c12]
                exact zt_M_lookForRaces_115 (hk14 := ih) H
              · rw [if_neg c12] at H
                rw [zp_if_eq_f (x := r11) (t := 115) zd_182_92 rfl c12]
                rw [zs_aload_n (ls := [some (.ref 82), some (.int v1), some (.int v2), some (.int v3), some (.int ((24 * v2) + (σ 107 r7.toNatClampNeg))), some (.int ((24 * v3) + (σ 107 r9.toNatClampNeg))), some (.int ((96 * ((24 * v2) + (σ 107 r7.toNatClampNeg))) + ((24 * v3) + (σ 107 r9.toNatClampNeg))))]) zd_182_95 rfl]
                rw [zs_getR (n := 119) (K := zx_pk (zK L) 119) (ρ := zR) (c := 12) (k := 58) (q := 82) (p := 114) zd_182_96 rfl rfl rfl (by decide) rfl]
                rw [zs_iload (ls := [some (.ref 82), some (.int v1), some (.int v2), some (.int v3), some (.int ((24 * v2) + (σ 107 r7.toNatClampNeg))), some (.int ((24 * v3) + (σ 107 r9.toNatClampNeg))), some (.int ((96 * ((24 * v2) + (σ 107 r7.toNatClampNeg))) + ((24 * v3) + (σ 107 r9.toNatClampNeg))))]) zd_182_99 rfl]
                by_cases c13 : 0 ≤ ((96 * ((24 * v2) + (σ 107 r7.toNatClampNeg))) + ((24 * v3) + (σ 107 r9.toNatClampNeg))) ∧ ((96 * ((24 * v2) + (σ 107 r7.toNatClampNeg))) + ((24 * v3) + (σ 107 r9.toNatClampNeg))) < 9216
                · rw [if_pos c13] at H
                  rw [zp_iaload (n := 119) (K := zx_pk (zK L) 119) (σ := σ) (q := 114) (m := 9216) (i := ((96 * ((24 * v2) + (σ 107 r7.toNatClampNeg))) + ((24 * v3) + (σ 107 r9.toNatClampNeg)))) (k := ((96 * ((24 * v2) + (σ 107 r7.toNatClampNeg))) + ((24 * v3) + (σ 107 r9.toNatClampNeg))).toNatClampNeg) (v := (σ 114 ((96 * ((24 * v2) + (σ 107 r7.toNatClampNeg))) + ((24 * v3) + (σ 107 r9.toNatClampNeg))).toNatClampNeg)) zd_182_101 rfl (by decide) (zJ_in c13 rfl) rfl rfl]
                  by_cases c14 : ¬ (σ 114 ((96 * ((24 * v2) + (σ 107 r7.toNatClampNeg))) + ((24 * v3) + (σ 107 r9.toNatClampNeg))).toNatClampNeg) = 0
                  · rw [if_pos c14] at H
                    rw [zp_if_ne_t (x := (σ 114 ((96 * ((24 * v2) + (σ 107 r7.toNatClampNeg))) + ((24 * v3) + (σ 107 r9.toNatClampNeg))).toNatClampNeg)) (t := 115) zd_182_102 rfl c14]
                    exact zt_M_lookForRaces_115 (hk14 := ih) H
                  · rw [if_neg c14] at H
                    rw [zp_if_ne_f (x := (σ 114 ((96 * ((24 * v2) + (σ 107 r7.toNatClampNeg))) + ((24 * v3) + (σ 107 r9.toNatClampNeg))).toNatClampNeg)) (t := 115) zd_182_102 rfl c14]
                    rw [zs_aload_n (ls := [some (.ref 82), some (.int v1), some (.int v2), some (.int v3), some (.int ((24 * v2) + (σ 107 r7.toNatClampNeg))), some (.int ((24 * v3) + (σ 107 r9.toNatClampNeg))), some (.int ((96 * ((24 * v2) + (σ 107 r7.toNatClampNeg))) + ((24 * v3) + (σ 107 r9.toNatClampNeg))))]) zd_182_105 rfl]
                    rw [zs_getR (n := 119) (K := zx_pk (zK L) 119) (ρ := zR) (c := 12) (k := 58) (q := 82) (p := 114) zd_182_106 rfl rfl rfl (by decide) rfl]
                    rw [zs_iload (ls := [some (.ref 82), some (.int v1), some (.int v2), some (.int v3), some (.int ((24 * v2) + (σ 107 r7.toNatClampNeg))), some (.int ((24 * v3) + (σ 107 r9.toNatClampNeg))), some (.int ((96 * ((24 * v2) + (σ 107 r7.toNatClampNeg))) + ((24 * v3) + (σ 107 r9.toNatClampNeg))))]) zd_182_109 rfl]
                    rw [zs_iload_n (ls := [some (.ref 82), some (.int v1), some (.int v2), some (.int v3), some (.int ((24 * v2) + (σ 107 r7.toNatClampNeg))), some (.int ((24 * v3) + (σ 107 r9.toNatClampNeg))), some (.int ((96 * ((24 * v2) + (σ 107 r7.toNatClampNeg))) + ((24 * v3) + (σ 107 r9.toNatClampNeg))))]) zd_182_111 rfl]
                    rw [zs_iconst (z := 1) zd_182_112 (by decide)]
                    rw [zp_iadd (x := v1) (y := 1) (z := (v1 + 1)) zd_182_113 rfl]
                    by_cases c15 : 0 ≤ ((96 * ((24 * v2) + (σ 107 r7.toNatClampNeg))) + ((24 * v3) + (σ 107 r9.toNatClampNeg))) ∧ ((96 * ((24 * v2) + (σ 107 r7.toNatClampNeg))) + ((24 * v3) + (σ 107 r9.toNatClampNeg))) < 9216
                    · rw [if_pos c15] at H
                      rw [zp_iastore (n := 119) (K := zx_pk (zK L) 119) (q := 114) (m := 9216) (i := ((96 * ((24 * v2) + (σ 107 r7.toNatClampNeg))) + ((24 * v3) + (σ 107 r9.toNatClampNeg)))) (k := ((96 * ((24 * v2) + (σ 107 r7.toNatClampNeg))) + ((24 * v3) + (σ 107 r9.toNatClampNeg))).toNatClampNeg) (x := (v1 + 1)) (z := (v1 + 1)) zd_182_114 rfl ⟨by decide, by decide⟩ (zJ_in c15 rfl) rfl rfl]
                      exact zt_M_lookForRaces_115 (hk14 := ih) H
                    · rw [if_neg c15] at H
                      cases H
                · rw [if_neg c13] at H
                  cases H
            · rw [if_neg c10] at H
              cases H
          · rw [if_neg c8] at H
            cases H
set_option maxRecDepth 20000 in
theorem zt_M_lookForRaces_2 {a b L N : Nat} : ∀ {n : Nat} {σ : zS} {τ : zT} {v1 : Int32} {v2 : Int32} {o3 : Option Value} {o4 : Option Value} {o5 : Option Value} {o6 : Option Value} {r : zS}, zb_M_lookForRaces_2 N n σ v1 v2 = some r → zx_go 2 182 2 [some (.ref 82), some (.int v1), some (.int v2), o3, o4, o5, o6] [] ((119, a, b), zx_pk (zK L) 119, σ, τ, zR) = some (none, ((119, a, b), zx_pk (zK L) 119, r, τ, zR)) := by
  intro n
  induction n with
  | zero =>
    intro _ _ _ _ _ _ _ _ _ H
    cases H
  | succ n ih =>
    intro σ τ v1 v2 o3 o4 o5 o6 r H
    rw [zb_M_lookForRaces_2] at H
    rw [zs_iload_n (ls := [some (.ref 82), some (.int v1), some (.int v2), o3, o4, o5, o6]) zd_182_2 rfl]
    rw [zs_aload_n (ls := [some (.ref 82), some (.int v1), some (.int v2), o3, o4, o5, o6]) zd_182_3 rfl]
    rw [zp_getI (n := 119) (K := zx_pk (zK L) 119) (σ := σ) (c := 12) (k := 17) (q := 82) (v := (σ 82 17)) zd_182_4 rfl rfl rfl (by decide) rfl]
    by_cases c1 : (σ 82 17) ≤ v2
    · rw [if_pos c1] at H
      rw [zp_icmp_ge_t (x := v2) (y := (σ 82 17)) (t := 127) zd_182_7 rfl c1]
      have H := Option.some.inj H
      subst H
      exact zs_return zd_182_127 (by decide +kernel)
    · rw [if_neg c1] at H
      rw [zp_icmp_ge_f (x := v2) (y := (σ 82 17)) (t := 127) zd_182_7 rfl c1]
      rw [zs_iload_n (ls := [some (.ref 82), some (.int v1), some (.int v2), o3, o4, o5, o6]) zd_182_10 rfl]
      rw [zs_iconst (z := 1) zd_182_11 (by decide)]
      rw [zp_iadd (x := v2) (y := 1) (z := (v2 + 1)) zd_182_12 rfl]
      rw [zs_istore_n (x := (v2 + 1)) (ls' := [some (.ref 82), some (.int v1), some (.int v2), some (.int (v2 + 1)), o4, o5, o6]) zd_182_13 (Nat.le_of_ble_eq_true rfl) rfl]
      exact zt_M_lookForRaces_14 (hk2 := ih) H
set_option maxRecDepth 20000 in
theorem zt_M_lookForRaces {a b L N : Nat} {σ : zS} {τ : zT} {x1 : Int32} {r : zS} (H : zf_M_lookForRaces N σ x1 = some r) : zx_go 2 182 0 [some (.ref 82), some (.int x1), none, none, none, none, none] [] ((119, a, b), zx_pk (zK L) 119, σ, τ, zR) = some (none, ((119, a, b), zx_pk (zK L) 119, r, τ, zR)) := by
  unfold zf_M_lookForRaces at H
  rw [zs_iconst (z := 0) zd_182_0 (by decide)]
  rw [zs_istore_n (x := 0) (ls' := [some (.ref 82), some (.int x1), some (.int 0), none, none, none, none]) zd_182_1 (Nat.le_of_ble_eq_true rfl) rfl]
  exact zt_M_lookForRaces_2  H
set_option maxRecDepth 20000 in
theorem zt_M_isOutcome_206 {a b L N : Nat} {k66 : zS → Int32 → Int32 → Int32 → Int32 → Int32 → Int32 → Option (Int32)} (hk66 : ∀ {σ : zS} {τ : zT} {v1 : Int32} {v2 : Int32} {v3 : Int32} {v4 : Int32} {v5 : Int32} {v6 : Int32} {o7 : Option Value} {o8 : Option Value} {r : Int32}, k66 σ v1 v2 v3 v4 v5 v6 = some r → zx_go 1 193 66 [some (.ref 82), some (.int v1), some (.int v2), some (.int v3), some (.int v4), some (.int v5), some (.int v6), o7, o8] [] ((119, a, b), zx_pk (zK L) 119, σ, τ, zR) = some (some (.int r), ((119, a, b), zx_pk (zK L) 119, σ, τ, zR))) {σ : zS} {τ : zT} {v1 : Int32} {v2 : Int32} {v3 : Int32} {v4 : Int32} {v6 : Int32} {s0 : Int32} {o5 : Option Value} {o7 : Option Value} {o8 : Option Value} {r : Int32} (H : zb_M_isOutcome_206 k66 N σ v1 v2 v3 v4 v6 s0 = some r) : zx_go 1 193 206 [some (.ref 82), some (.int v1), some (.int v2), some (.int v3), some (.int v4), o5, some (.int v6), o7, o8] [.int s0] ((119, a, b), zx_pk (zK L) 119, σ, τ, zR) = some (some (.int r), ((119, a, b), zx_pk (zK L) 119, σ, τ, zR)) := by
  unfold zb_M_isOutcome_206 at H
  rw [zs_istore (x := s0) (ls' := [some (.ref 82), some (.int v1), some (.int v2), some (.int v3), some (.int v4), some (.int s0), some (.int v6), o7, o8]) zd_193_206 (Nat.le_of_ble_eq_true rfl) rfl]
  rw [zs_iinc (ls := [some (.ref 82), some (.int v1), some (.int v2), some (.int v3), some (.int v4), some (.int s0), some (.int v6), o7, o8]) (x := v6) (z := (v6 + 1)) (ls' := [some (.ref 82), some (.int v1), some (.int v2), some (.int v3), some (.int v4), some (.int s0), some (.int (v6 + 1)), o7, o8]) zd_193_208 rfl rfl rfl]
  rw [zs_goto (t := 66) zd_193_211 rfl]
  exact hk66 H
set_option maxRecDepth 20000 in
theorem zt_M_isOutcome_205 {a b L N : Nat} {k66 : zS → Int32 → Int32 → Int32 → Int32 → Int32 → Int32 → Option (Int32)} (hk66 : ∀ {σ : zS} {τ : zT} {v1 : Int32} {v2 : Int32} {v3 : Int32} {v4 : Int32} {v5 : Int32} {v6 : Int32} {o7 : Option Value} {o8 : Option Value} {r : Int32}, k66 σ v1 v2 v3 v4 v5 v6 = some r → zx_go 1 193 66 [some (.ref 82), some (.int v1), some (.int v2), some (.int v3), some (.int v4), some (.int v5), some (.int v6), o7, o8] [] ((119, a, b), zx_pk (zK L) 119, σ, τ, zR) = some (some (.int r), ((119, a, b), zx_pk (zK L) 119, σ, τ, zR))) {σ : zS} {τ : zT} {v1 : Int32} {v2 : Int32} {v3 : Int32} {v4 : Int32} {v6 : Int32} {o5 : Option Value} {o7 : Option Value} {o8 : Option Value} {r : Int32} (H : zb_M_isOutcome_205 k66 N σ v1 v2 v3 v4 v6 = some r) : zx_go 1 193 205 [some (.ref 82), some (.int v1), some (.int v2), some (.int v3), some (.int v4), o5, some (.int v6), o7, o8] [] ((119, a, b), zx_pk (zK L) 119, σ, τ, zR) = some (some (.int r), ((119, a, b), zx_pk (zK L) 119, σ, τ, zR)) := by
  unfold zb_M_isOutcome_205 at H
  rw [zs_iconst (z := 0) zd_193_205 (by decide)]
  exact zt_M_isOutcome_206 (hk66 := hk66) H
set_option maxRecDepth 20000 in
theorem zt_M_isOutcome_201 {a b L N : Nat} {k66 : zS → Int32 → Int32 → Int32 → Int32 → Int32 → Int32 → Option (Int32)} (hk66 : ∀ {σ : zS} {τ : zT} {v1 : Int32} {v2 : Int32} {v3 : Int32} {v4 : Int32} {v5 : Int32} {v6 : Int32} {o7 : Option Value} {o8 : Option Value} {r : Int32}, k66 σ v1 v2 v3 v4 v5 v6 = some r → zx_go 1 193 66 [some (.ref 82), some (.int v1), some (.int v2), some (.int v3), some (.int v4), some (.int v5), some (.int v6), o7, o8] [] ((119, a, b), zx_pk (zK L) 119, σ, τ, zR) = some (some (.int r), ((119, a, b), zx_pk (zK L) 119, σ, τ, zR))) {σ : zS} {τ : zT} {v1 : Int32} {v2 : Int32} {v3 : Int32} {v4 : Int32} {v6 : Int32} {o5 : Option Value} {o7 : Option Value} {o8 : Option Value} {r : Int32} (H : zb_M_isOutcome_201 k66 N σ v1 v2 v3 v4 v6 = some r) : zx_go 1 193 201 [some (.ref 82), some (.int v1), some (.int v2), some (.int v3), some (.int v4), o5, some (.int v6), o7, o8] [] ((119, a, b), zx_pk (zK L) 119, σ, τ, zR) = some (some (.int r), ((119, a, b), zx_pk (zK L) 119, σ, τ, zR)) := by
  unfold zb_M_isOutcome_201 at H
  rw [zs_iconst (z := 1) zd_193_201 (by decide)]
  rw [zs_goto (t := 206) zd_193_202 rfl]
  exact zt_M_isOutcome_206 (hk66 := hk66) H
set_option maxRecDepth 20000 in
theorem zt_M_isOutcome_177 {a b L N : Nat} {k66 : zS → Int32 → Int32 → Int32 → Int32 → Int32 → Int32 → Option (Int32)} (hk66 : ∀ {σ : zS} {τ : zT} {v1 : Int32} {v2 : Int32} {v3 : Int32} {v4 : Int32} {v5 : Int32} {v6 : Int32} {o7 : Option Value} {o8 : Option Value} {r : Int32}, k66 σ v1 v2 v3 v4 v5 v6 = some r → zx_go 1 193 66 [some (.ref 82), some (.int v1), some (.int v2), some (.int v3), some (.int v4), some (.int v5), some (.int v6), o7, o8] [] ((119, a, b), zx_pk (zK L) 119, σ, τ, zR) = some (some (.int r), ((119, a, b), zx_pk (zK L) 119, σ, τ, zR))) {σ : zS} {τ : zT} {v1 : Int32} {v2 : Int32} {v3 : Int32} {v5 : Int32} {v6 : Int32} {v8 : Int32} {s0 : Int32} {o4 : Option Value} {o7 : Option Value} {r : Int32} (H : zb_M_isOutcome_177 k66 N σ v1 v2 v3 v5 v6 v8 s0 = some r) : zx_go 1 193 177 [some (.ref 82), some (.int v1), some (.int v2), some (.int v3), o4, some (.int v5), some (.int v6), o7, some (.int v8)] [.int s0] ((119, a, b), zx_pk (zK L) 119, σ, τ, zR) = some (some (.int r), ((119, a, b), zx_pk (zK L) 119, σ, τ, zR)) := by
  unfold zb_M_isOutcome_177 at H
  rw [zs_istore (x := s0) (ls' := [some (.ref 82), some (.int v1), some (.int v2), some (.int v3), some (.int s0), some (.int v5), some (.int v6), o7, some (.int v8)]) zd_193_177 (Nat.le_of_ble_eq_true rfl) rfl]
  rw [zs_iload (ls := [some (.ref 82), some (.int v1), some (.int v2), some (.int v3), some (.int s0), some (.int v5), some (.int v6), o7, some (.int v8)]) zd_193_179 rfl]
  by_cases c11 : ¬ v5 = 0
  · rw [if_pos c11] at H
    rw [zp_if_ne_t (x := v5) (t := 201) zd_193_181 rfl c11]
    exact zt_M_isOutcome_201 (hk66 := hk66) H
  · rw [if_neg c11] at H
    rw [zp_if_ne_f (x := v5) (t := 201) zd_193_181 rfl c11]
    rw [zs_iload (ls := [some (.ref 82), some (.int v1), some (.int v2), some (.int v3), some (.int s0), some (.int v5), some (.int v6), o7, some (.int v8)]) zd_193_184 rfl]
    rw [zs_iconst (z := 4) zd_193_186 (by decide)]
    by_cases c12 : v8 = 4
    · rw [if_pos c12] at H
      rw [zp_icmp_eq_t (x := v8) (y := 4) (t := 205) zd_193_187 rfl c12]
      exact zt_M_isOutcome_205 (hk66 := hk66) H
    · rw [if_neg c12] at H
      rw [zp_icmp_eq_f (x := v8) (y := 4) (t := 205) zd_193_187 rfl c12]
      rw [zs_iload (ls := [some (.ref 82), some (.int v1), some (.int v2), some (.int v3), some (.int s0), some (.int v5), some (.int v6), o7, some (.int v8)]) zd_193_190 rfl]
      rw [zs_iconst (z := 5) zd_193_192 (by decide)]
      by_cases c13 : v8 = 5
      · rw [if_pos c13] at H
        rw [zp_icmp_eq_t (x := v8) (y := 5) (t := 205) zd_193_193 rfl c13]
        exact zt_M_isOutcome_205 (hk66 := hk66) H
      · rw [if_neg c13] at H
        rw [zp_icmp_eq_f (x := v8) (y := 5) (t := 205) zd_193_193 rfl c13]
        rw [zs_iload (ls := [some (.ref 82), some (.int v1), some (.int v2), some (.int v3), some (.int s0), some (.int v5), some (.int v6), o7, some (.int v8)]) zd_193_196 rfl]
        by_cases c14 : v8 = 0
        · rw [if_pos c14] at H
          rw [zp_if_eq_t (x := v8) (t := 205) zd_193_198 rfl c14]
          exact zt_M_isOutcome_205 (hk66 := hk66) H
        · rw [if_neg c14] at H
          rw [zp_if_eq_f (x := v8) (t := 205) zd_193_198 rfl c14]
          exact zt_M_isOutcome_201 (hk66 := hk66) H
set_option maxRecDepth 20000 in
theorem zt_M_isOutcome_176 {a b L N : Nat} {k66 : zS → Int32 → Int32 → Int32 → Int32 → Int32 → Int32 → Option (Int32)} (hk66 : ∀ {σ : zS} {τ : zT} {v1 : Int32} {v2 : Int32} {v3 : Int32} {v4 : Int32} {v5 : Int32} {v6 : Int32} {o7 : Option Value} {o8 : Option Value} {r : Int32}, k66 σ v1 v2 v3 v4 v5 v6 = some r → zx_go 1 193 66 [some (.ref 82), some (.int v1), some (.int v2), some (.int v3), some (.int v4), some (.int v5), some (.int v6), o7, o8] [] ((119, a, b), zx_pk (zK L) 119, σ, τ, zR) = some (some (.int r), ((119, a, b), zx_pk (zK L) 119, σ, τ, zR))) {σ : zS} {τ : zT} {v1 : Int32} {v2 : Int32} {v3 : Int32} {v5 : Int32} {v6 : Int32} {v8 : Int32} {o4 : Option Value} {o7 : Option Value} {r : Int32} (H : zb_M_isOutcome_176 k66 N σ v1 v2 v3 v5 v6 v8 = some r) : zx_go 1 193 176 [some (.ref 82), some (.int v1), some (.int v2), some (.int v3), o4, some (.int v5), some (.int v6), o7, some (.int v8)] [] ((119, a, b), zx_pk (zK L) 119, σ, τ, zR) = some (some (.int r), ((119, a, b), zx_pk (zK L) 119, σ, τ, zR)) := by
  unfold zb_M_isOutcome_176 at H
  rw [zs_iconst (z := 0) zd_193_176 (by decide)]
  exact zt_M_isOutcome_177 (hk66 := hk66) H
set_option maxRecDepth 20000 in
theorem zt_M_isOutcome_172 {a b L N : Nat} {k66 : zS → Int32 → Int32 → Int32 → Int32 → Int32 → Int32 → Option (Int32)} (hk66 : ∀ {σ : zS} {τ : zT} {v1 : Int32} {v2 : Int32} {v3 : Int32} {v4 : Int32} {v5 : Int32} {v6 : Int32} {o7 : Option Value} {o8 : Option Value} {r : Int32}, k66 σ v1 v2 v3 v4 v5 v6 = some r → zx_go 1 193 66 [some (.ref 82), some (.int v1), some (.int v2), some (.int v3), some (.int v4), some (.int v5), some (.int v6), o7, o8] [] ((119, a, b), zx_pk (zK L) 119, σ, τ, zR) = some (some (.int r), ((119, a, b), zx_pk (zK L) 119, σ, τ, zR))) {σ : zS} {τ : zT} {v1 : Int32} {v2 : Int32} {v3 : Int32} {v5 : Int32} {v6 : Int32} {v8 : Int32} {o4 : Option Value} {o7 : Option Value} {r : Int32} (H : zb_M_isOutcome_172 k66 N σ v1 v2 v3 v5 v6 v8 = some r) : zx_go 1 193 172 [some (.ref 82), some (.int v1), some (.int v2), some (.int v3), o4, some (.int v5), some (.int v6), o7, some (.int v8)] [] ((119, a, b), zx_pk (zK L) 119, σ, τ, zR) = some (some (.int r), ((119, a, b), zx_pk (zK L) 119, σ, τ, zR)) := by
  unfold zb_M_isOutcome_172 at H
  rw [zs_iconst (z := 1) zd_193_172 (by decide)]
  rw [zs_goto (t := 177) zd_193_173 rfl]
  exact zt_M_isOutcome_177 (hk66 := hk66) H
set_option maxRecDepth 20000 in
theorem zt_M_isOutcome_149 {a b L N : Nat} {k66 : zS → Int32 → Int32 → Int32 → Int32 → Int32 → Int32 → Option (Int32)} (hk66 : ∀ {σ : zS} {τ : zT} {v1 : Int32} {v2 : Int32} {v3 : Int32} {v4 : Int32} {v5 : Int32} {v6 : Int32} {o7 : Option Value} {o8 : Option Value} {r : Int32}, k66 σ v1 v2 v3 v4 v5 v6 = some r → zx_go 1 193 66 [some (.ref 82), some (.int v1), some (.int v2), some (.int v3), some (.int v4), some (.int v5), some (.int v6), o7, o8] [] ((119, a, b), zx_pk (zK L) 119, σ, τ, zR) = some (some (.int r), ((119, a, b), zx_pk (zK L) 119, σ, τ, zR))) {σ : zS} {τ : zT} {v1 : Int32} {v2 : Int32} {v4 : Int32} {v5 : Int32} {v6 : Int32} {v7 : Int32} {v8 : Int32} {s0 : Int32} {o3 : Option Value} {r : Int32} (H : zb_M_isOutcome_149 k66 N σ v1 v2 v4 v5 v6 v7 v8 s0 = some r) : zx_go 1 193 149 [some (.ref 82), some (.int v1), some (.int v2), o3, some (.int v4), some (.int v5), some (.int v6), some (.int v7), some (.int v8)] [.int s0] ((119, a, b), zx_pk (zK L) 119, σ, τ, zR) = some (some (.int r), ((119, a, b), zx_pk (zK L) 119, σ, τ, zR)) := by
  unfold zb_M_isOutcome_149 at H
  rw [zs_istore_n (x := s0) (ls' := [some (.ref 82), some (.int v1), some (.int v2), some (.int s0), some (.int v4), some (.int v5), some (.int v6), some (.int v7), some (.int v8)]) zd_193_149 (Nat.le_of_ble_eq_true rfl) rfl]
  rw [zs_iload (ls := [some (.ref 82), some (.int v1), some (.int v2), some (.int s0), some (.int v4), some (.int v5), some (.int v6), some (.int v7), some (.int v8)]) zd_193_150 rfl]
  by_cases c10 : ¬ v4 = 0
  · rw [if_pos c10] at H
    rw [zp_if_ne_t (x := v4) (t := 172) zd_193_152 rfl c10]
    exact zt_M_isOutcome_172 (hk66 := hk66) H
  · rw [if_neg c10] at H
    rw [zp_if_ne_f (x := v4) (t := 172) zd_193_152 rfl c10]
    rw [zs_iload (ls := [some (.ref 82), some (.int v1), some (.int v2), some (.int s0), some (.int v4), some (.int v5), some (.int v6), some (.int v7), some (.int v8)]) zd_193_155 rfl]
    rw [zs_iconst (z := 4) zd_193_157 (by decide)]
    by_cases c15 : v7 = 4
    · rw [if_pos c15] at H
      rw [zp_icmp_eq_t (x := v7) (y := 4) (t := 176) zd_193_158 rfl c15]
      exact zt_M_isOutcome_176 (hk66 := hk66) H
    · rw [if_neg c15] at H
      rw [zp_icmp_eq_f (x := v7) (y := 4) (t := 176) zd_193_158 rfl c15]
      rw [zs_iload (ls := [some (.ref 82), some (.int v1), some (.int v2), some (.int s0), some (.int v4), some (.int v5), some (.int v6), some (.int v7), some (.int v8)]) zd_193_161 rfl]
      rw [zs_iconst (z := 5) zd_193_163 (by decide)]
      by_cases c16 : v7 = 5
      · rw [if_pos c16] at H
        rw [zp_icmp_eq_t (x := v7) (y := 5) (t := 176) zd_193_164 rfl c16]
        exact zt_M_isOutcome_176 (hk66 := hk66) H
      · rw [if_neg c16] at H
        rw [zp_icmp_eq_f (x := v7) (y := 5) (t := 176) zd_193_164 rfl c16]
        rw [zs_iload (ls := [some (.ref 82), some (.int v1), some (.int v2), some (.int s0), some (.int v4), some (.int v5), some (.int v6), some (.int v7), some (.int v8)]) zd_193_167 rfl]
        by_cases c17 : v7 = 0
        · rw [if_pos c17] at H
          rw [zp_if_eq_t (x := v7) (t := 176) zd_193_169 rfl c17]
          exact zt_M_isOutcome_176 (hk66 := hk66) H
        · rw [if_neg c17] at H
          rw [zp_if_eq_f (x := v7) (t := 176) zd_193_169 rfl c17]
          exact zt_M_isOutcome_172 (hk66 := hk66) H
set_option maxRecDepth 20000 in
theorem zt_M_isOutcome_148 {a b L N : Nat} {k66 : zS → Int32 → Int32 → Int32 → Int32 → Int32 → Int32 → Option (Int32)} (hk66 : ∀ {σ : zS} {τ : zT} {v1 : Int32} {v2 : Int32} {v3 : Int32} {v4 : Int32} {v5 : Int32} {v6 : Int32} {o7 : Option Value} {o8 : Option Value} {r : Int32}, k66 σ v1 v2 v3 v4 v5 v6 = some r → zx_go 1 193 66 [some (.ref 82), some (.int v1), some (.int v2), some (.int v3), some (.int v4), some (.int v5), some (.int v6), o7, o8] [] ((119, a, b), zx_pk (zK L) 119, σ, τ, zR) = some (some (.int r), ((119, a, b), zx_pk (zK L) 119, σ, τ, zR))) {σ : zS} {τ : zT} {v1 : Int32} {v2 : Int32} {v4 : Int32} {v5 : Int32} {v6 : Int32} {v7 : Int32} {v8 : Int32} {o3 : Option Value} {r : Int32} (H : zb_M_isOutcome_148 k66 N σ v1 v2 v4 v5 v6 v7 v8 = some r) : zx_go 1 193 148 [some (.ref 82), some (.int v1), some (.int v2), o3, some (.int v4), some (.int v5), some (.int v6), some (.int v7), some (.int v8)] [] ((119, a, b), zx_pk (zK L) 119, σ, τ, zR) = some (some (.int r), ((119, a, b), zx_pk (zK L) 119, σ, τ, zR)) := by
  unfold zb_M_isOutcome_148 at H
  rw [zs_iconst (z := 0) zd_193_148 (by decide)]
  exact zt_M_isOutcome_149 (hk66 := hk66) H
set_option maxRecDepth 20000 in
theorem zt_M_isOutcome_141 {a b L N : Nat} {k66 : zS → Int32 → Int32 → Int32 → Int32 → Int32 → Int32 → Option (Int32)} (hk66 : ∀ {σ : zS} {τ : zT} {v1 : Int32} {v2 : Int32} {v3 : Int32} {v4 : Int32} {v5 : Int32} {v6 : Int32} {o7 : Option Value} {o8 : Option Value} {r : Int32}, k66 σ v1 v2 v3 v4 v5 v6 = some r → zx_go 1 193 66 [some (.ref 82), some (.int v1), some (.int v2), some (.int v3), some (.int v4), some (.int v5), some (.int v6), o7, o8] [] ((119, a, b), zx_pk (zK L) 119, σ, τ, zR) = some (some (.int r), ((119, a, b), zx_pk (zK L) 119, σ, τ, zR))) {σ : zS} {τ : zT} {v1 : Int32} {v2 : Int32} {v4 : Int32} {v5 : Int32} {v6 : Int32} {v7 : Int32} {v8 : Int32} {s0 : Int32} {s1 : Int32} {o3 : Option Value} {r : Int32} (H : zb_M_isOutcome_141 k66 N σ v1 v2 v4 v5 v6 v7 v8 s0 s1 = some r) : zx_go 1 193 141 [some (.ref 82), some (.int v1), some (.int v2), o3, some (.int v4), some (.int v5), some (.int v6), some (.int v7), some (.int v8)] [.int s0, .int s1] ((119, a, b), zx_pk (zK L) 119, σ, τ, zR) = some (some (.int r), ((119, a, b), zx_pk (zK L) 119, σ, τ, zR)) := by
  unfold zb_M_isOutcome_141 at H
  by_cases c20 : ¬ s1 = s0
  · rw [if_pos c20] at H
    rw [zp_icmp_ne_t (x := s1) (y := s0) (t := 148) zd_193_141 rfl c20]
    exact zt_M_isOutcome_148 (hk66 := hk66) H
  · rw [if_neg c20] at H
    rw [zp_icmp_ne_f (x := s1) (y := s0) (t := 148) zd_193_141 rfl c20]
    rw [zs_iconst (z := 1) zd_193_144 (by decide)]
    rw [zs_goto (t := 149) zd_193_145 rfl]
    exact zt_M_isOutcome_149 (hk66 := hk66) H
set_option maxRecDepth 20000 in
theorem zt_M_isOutcome_130 {a b L N : Nat} {k66 : zS → Int32 → Int32 → Int32 → Int32 → Int32 → Int32 → Option (Int32)} (hk66 : ∀ {σ : zS} {τ : zT} {v1 : Int32} {v2 : Int32} {v3 : Int32} {v4 : Int32} {v5 : Int32} {v6 : Int32} {o7 : Option Value} {o8 : Option Value} {r : Int32}, k66 σ v1 v2 v3 v4 v5 v6 = some r → zx_go 1 193 66 [some (.ref 82), some (.int v1), some (.int v2), some (.int v3), some (.int v4), some (.int v5), some (.int v6), o7, o8] [] ((119, a, b), zx_pk (zK L) 119, σ, τ, zR) = some (some (.int r), ((119, a, b), zx_pk (zK L) 119, σ, τ, zR))) {σ : zS} {τ : zT} {v1 : Int32} {v2 : Int32} {v4 : Int32} {v5 : Int32} {v6 : Int32} {v7 : Int32} {v8 : Int32} {s0 : Int32} {o3 : Option Value} {r : Int32} (H : zb_M_isOutcome_130 k66 N σ v1 v2 v4 v5 v6 v7 v8 s0 = some r) : zx_go 1 193 130 [some (.ref 82), some (.int v1), some (.int v2), o3, some (.int v4), some (.int v5), some (.int v6), some (.int v7), some (.int v8)] [.int s0] ((119, a, b), zx_pk (zK L) 119, σ, τ, zR) = some (some (.int r), ((119, a, b), zx_pk (zK L) 119, σ, τ, zR)) := by
  unfold zb_M_isOutcome_130 at H
  rw [zs_iload (ls := [some (.ref 82), some (.int v1), some (.int v2), o3, some (.int v4), some (.int v5), some (.int v6), some (.int v7), some (.int v8)]) zd_193_130 rfl]
  rw [zs_iconst (z := 5) zd_193_132 (by decide)]
  by_cases c19 : ¬ v8 = 5
  · rw [if_pos c19] at H
    rw [zp_icmp_ne_t (x := v8) (y := 5) (t := 140) zd_193_133 rfl c19]
    rw [zs_iconst (z := 0) zd_193_140 (by decide)]
    exact zt_M_isOutcome_141 (hk66 := hk66) H
  · rw [if_neg c19] at H
    rw [zp_icmp_ne_f (x := v8) (y := 5) (t := 140) zd_193_133 rfl c19]
    rw [zs_iconst (z := 1) zd_193_136 (by decide)]
    rw [zs_goto (t := 141) zd_193_137 rfl]
    exact zt_M_isOutcome_141 (hk66 := hk66) H
set_option maxRecDepth 20000 in
theorem zt_M_isOutcome_66 {a b L N : Nat} : ∀ {n : Nat} {σ : zS} {τ : zT} {v1 : Int32} {v2 : Int32} {v3 : Int32} {v4 : Int32} {v5 : Int32} {v6 : Int32} {o7 : Option Value} {o8 : Option Value} {r : Int32}, zb_M_isOutcome_66 N n σ v1 v2 v3 v4 v5 v6 = some r → zx_go 1 193 66 [some (.ref 82), some (.int v1), some (.int v2), some (.int v3), some (.int v4), some (.int v5), some (.int v6), o7, o8] [] ((119, a, b), zx_pk (zK L) 119, σ, τ, zR) = some (some (.int r), ((119, a, b), zx_pk (zK L) 119, σ, τ, zR)) := by
  intro n
  induction n with
  | zero =>
    intro _ _ _ _ _ _ _ _ _ _ _ H
    cases H
  | succ n ih =>
    intro σ τ v1 v2 v3 v4 v5 v6 o7 o8 r H
    rw [zb_M_isOutcome_66] at H
    rw [zs_iload (ls := [some (.ref 82), some (.int v1), some (.int v2), some (.int v3), some (.int v4), some (.int v5), some (.int v6), o7, o8]) zd_193_66 rfl]
    rw [zs_aload_n (ls := [some (.ref 82), some (.int v1), some (.int v2), some (.int v3), some (.int v4), some (.int v5), some (.int v6), o7, o8]) zd_193_68 rfl]
    rw [zp_getI (n := 119) (K := zx_pk (zK L) 119) (σ := σ) (c := 12) (k := 17) (q := 82) (v := (σ 82 17)) zd_193_69 rfl rfl rfl (by decide) rfl]
    by_cases c2 : (σ 82 17) ≤ v6
    · rw [if_pos c2] at H
      rw [zp_icmp_ge_t (x := v6) (y := (σ 82 17)) (t := 214) zd_193_72 rfl c2]
      rw [zs_iload_n (ls := [some (.ref 82), some (.int v1), some (.int v2), some (.int v3), some (.int v4), some (.int v5), some (.int v6), o7, o8]) zd_193_214 rfl]
      by_cases c3 : v3 = 0
      · rw [if_pos c3] at H
        rw [zp_if_eq_t (x := v3) (t := 229) zd_193_215 rfl c3]
        rw [zs_iconst (z := 0) zd_193_229 (by decide)]
        have H := Option.some.inj H
        subst H
        exact zs_ireturn zd_193_230 (by decide +kernel)
      · rw [if_neg c3] at H
        rw [zp_if_eq_f (x := v3) (t := 229) zd_193_215 rfl c3]
        rw [zs_iload (ls := [some (.ref 82), some (.int v1), some (.int v2), some (.int v3), some (.int v4), some (.int v5), some (.int v6), o7, o8]) zd_193_218 rfl]
        rw [zs_iload (ls := [some (.ref 82), some (.int v1), some (.int v2), some (.int v3), some (.int v4), some (.int v5), some (.int v6), o7, o8]) zd_193_220 rfl]
        by_cases c4 : ¬ v4 = v5
        · rw [if_pos c4] at H
          rw [zp_icmp_ne_t (x := v4) (y := v5) (t := 229) zd_193_222 rfl c4]
          rw [zs_iconst (z := 0) zd_193_229 (by decide)]
          have H := Option.some.inj H
          subst H
          exact zs_ireturn zd_193_230 (by decide +kernel)
        · rw [if_neg c4] at H
          rw [zp_icmp_ne_f (x := v4) (y := v5) (t := 229) zd_193_222 rfl c4]
          rw [zs_iconst (z := 1) zd_193_225 (by decide)]
          rw [zs_goto (t := 230) zd_193_226 rfl]
          have H := Option.some.inj H
          subst H
          exact zs_ireturn zd_193_230 (by decide +kernel)
    · rw [if_neg c2] at H
      rw [zp_icmp_ge_f (x := v6) (y := (σ 82 17)) (t := 214) zd_193_72 rfl c2]
      rw [zs_aload_n (ls := [some (.ref 82), some (.int v1), some (.int v2), some (.int v3), some (.int v4), some (.int v5), some (.int v6), o7, o8]) zd_193_75 rfl]
      rw [zs_getR (n := 119) (K := zx_pk (zK L) 119) (ρ := zR) (c := 12) (k := 48) (q := 82) (p := 108) zd_193_76 rfl rfl rfl (by decide) rfl]
      rw [zs_bipush (z := 40) zd_193_79 (by decide)]
      rw [zs_iload_n (ls := [some (.ref 82), some (.int v1), some (.int v2), some (.int v3), some (.int v4), some (.int v5), some (.int v6), o7, o8]) zd_193_81 rfl]
      rw [zp_imul (x := 40) (y := v1) (z := (40 * v1)) zd_193_82 rfl]
      rw [zs_aload_n (ls := [some (.ref 82), some (.int v1), some (.int v2), some (.int v3), some (.int v4), some (.int v5), some (.int v6), o7, o8]) zd_193_83 rfl]
      rw [zs_iload (ls := [some (.ref 82), some (.int v1), some (.int v2), some (.int v3), some (.int v4), some (.int v5), some (.int v6), o7, o8]) zd_193_84 rfl]
      obtain ⟨r5, hr5, H⟩ := Option.bind_eq_some_iff.mp H
      rw [zp_callVi (x := r5) (st := [.int v6, .ref 82, .int (40 * v1), .ref 108]) (as := [.ref 82, .int v6]) (rest := [.int (40 * v1), .ref 108]) (e := 0) zd_193_86 rfl (by decide +kernel) (by decide) rfl rfl (Nat.le_of_ble_eq_true rfl) (zx_rcb_ok rfl (show 82 < 119 by decide)) (Nat.le_of_ble_eq_true rfl) rfl (by decide) (zt_M_at hr5)]
      rw [zp_iadd (x := (40 * v1)) (y := r5) (z := ((40 * v1) + r5)) zd_193_89 rfl]
      rw [zs_iconst (z := 1) zd_193_90 (by decide)]
      rw [zp_iadd (x := ((40 * v1) + r5)) (y := 1) (z := (((40 * v1) + r5) + 1)) zd_193_91 rfl]
      by_cases c6 : 0 ≤ (((40 * v1) + r5) + 1) ∧ (((40 * v1) + r5) + 1) < 320000
      · rw [if_pos c6] at H
        rw [zp_baload (n := 119) (K := zx_pk (zK L) 119) (σ := σ) (q := 108) (m := 320000) (i := (((40 * v1) + r5) + 1)) (k := (((40 * v1) + r5) + 1).toNatClampNeg) (v := (σ 108 (((40 * v1) + r5) + 1).toNatClampNeg)) zd_193_92 rfl (by decide) (zJ_in c6 rfl) rfl rfl]
        rw [zs_istore (x := (σ 108 (((40 * v1) + r5) + 1).toNatClampNeg)) (ls' := [some (.ref 82), some (.int v1), some (.int v2), some (.int v3), some (.int v4), some (.int v5), some (.int v6), some (.int (σ 108 (((40 * v1) + r5) + 1).toNatClampNeg)), o8]) zd_193_93 (Nat.le_of_ble_eq_true rfl) rfl]
        rw [zs_aload_n (ls := [some (.ref 82), some (.int v1), some (.int v2), some (.int v3), some (.int v4), some (.int v5), some (.int v6), some (.int (σ 108 (((40 * v1) + r5) + 1).toNatClampNeg)), o8]) zd_193_95 rfl]
        rw [zs_getR (n := 119) (K := zx_pk (zK L) 119) (ρ := zR) (c := 12) (k := 48) (q := 82) (p := 108) zd_193_96 rfl rfl rfl (by decide) rfl]
        rw [zs_bipush (z := 40) zd_193_99 (by decide)]
        rw [zs_iload_n (ls := [some (.ref 82), some (.int v1), some (.int v2), some (.int v3), some (.int v4), some (.int v5), some (.int v6), some (.int (σ 108 (((40 * v1) + r5) + 1).toNatClampNeg)), o8]) zd_193_101 rfl]
        rw [zp_imul (x := 40) (y := v2) (z := (40 * v2)) zd_193_102 rfl]
        rw [zs_aload_n (ls := [some (.ref 82), some (.int v1), some (.int v2), some (.int v3), some (.int v4), some (.int v5), some (.int v6), some (.int (σ 108 (((40 * v1) + r5) + 1).toNatClampNeg)), o8]) zd_193_103 rfl]
        rw [zs_iload (ls := [some (.ref 82), some (.int v1), some (.int v2), some (.int v3), some (.int v4), some (.int v5), some (.int v6), some (.int (σ 108 (((40 * v1) + r5) + 1).toNatClampNeg)), o8]) zd_193_104 rfl]
        obtain ⟨r7, hr7, H⟩ := Option.bind_eq_some_iff.mp H
        rw [zp_callVi (x := r7) (st := [.int v6, .ref 82, .int (40 * v2), .ref 108]) (as := [.ref 82, .int v6]) (rest := [.int (40 * v2), .ref 108]) (e := 0) zd_193_106 rfl (by decide +kernel) (by decide) rfl rfl (Nat.le_of_ble_eq_true rfl) (zx_rcb_ok rfl (show 82 < 119 by decide)) (Nat.le_of_ble_eq_true rfl) rfl (by decide) (zt_M_at hr7)]
        rw [zp_iadd (x := (40 * v2)) (y := r7) (z := ((40 * v2) + r7)) zd_193_109 rfl]
        rw [zs_iconst (z := 1) zd_193_110 (by decide)]
        rw [zp_iadd (x := ((40 * v2) + r7)) (y := 1) (z := (((40 * v2) + r7) + 1)) zd_193_111 rfl]
        by_cases c8 : 0 ≤ (((40 * v2) + r7) + 1) ∧ (((40 * v2) + r7) + 1) < 320000
        · rw [if_pos c8] at H
          rw [zp_baload (n := 119) (K := zx_pk (zK L) 119) (σ := σ) (q := 108) (m := 320000) (i := (((40 * v2) + r7) + 1)) (k := (((40 * v2) + r7) + 1).toNatClampNeg) (v := (σ 108 (((40 * v2) + r7) + 1).toNatClampNeg)) zd_193_112 rfl (by decide) (zJ_in c8 rfl) rfl rfl]
          rw [zs_istore (x := (σ 108 (((40 * v2) + r7) + 1).toNatClampNeg)) (ls' := [some (.ref 82), some (.int v1), some (.int v2), some (.int v3), some (.int v4), some (.int v5), some (.int v6), some (.int (σ 108 (((40 * v1) + r5) + 1).toNatClampNeg)), some (.int (σ 108 (((40 * v2) + r7) + 1).toNatClampNeg))]) zd_193_113 (Nat.le_of_ble_eq_true rfl) rfl]
          rw [zs_iload_n (ls := [some (.ref 82), some (.int v1), some (.int v2), some (.int v3), some (.int v4), some (.int v5), some (.int v6), some (.int (σ 108 (((40 * v1) + r5) + 1).toNatClampNeg)), some (.int (σ 108 (((40 * v2) + r7) + 1).toNatClampNeg))]) zd_193_115 rfl]
          by_cases c9 : v3 = 0
          · rw [if_pos c9] at H
            rw [zp_if_eq_t (x := v3) (t := 148) zd_193_116 rfl c9]
            exact zt_M_isOutcome_148 (hk66 := ih) H
          · rw [if_neg c9] at H
            rw [zp_if_eq_f (x := v3) (t := 148) zd_193_116 rfl c9]
            rw [zs_iload (ls := [some (.ref 82), some (.int v1), some (.int v2), some (.int v3), some (.int v4), some (.int v5), some (.int v6), some (.int (σ 108 (((40 * v1) + r5) + 1).toNatClampNeg)), some (.int (σ 108 (((40 * v2) + r7) + 1).toNatClampNeg))]) zd_193_119 rfl]
            rw [zs_iconst (z := 5) zd_193_121 (by decide)]
            by_cases c18 : ¬ (σ 108 (((40 * v1) + r5) + 1).toNatClampNeg) = 5
            · rw [if_pos c18] at H
              rw [zp_icmp_ne_t (x := (σ 108 (((40 * v1) + r5) + 1).toNatClampNeg)) (y := 5) (t := 129) zd_193_122 rfl c18]
              rw [zs_iconst (z := 0) zd_193_129 (by decide)]
              exact zt_M_isOutcome_130 (hk66 := ih) H
            · rw [if_neg c18] at H
              rw [zp_icmp_ne_f (x := (σ 108 (((40 * v1) + r5) + 1).toNatClampNeg)) (y := 5) (t := 129) zd_193_122 rfl c18]
              rw [zs_iconst (z := 1) zd_193_125 (by decide)]
              rw [zs_goto (t := 130) zd_193_126 rfl]
              exact zt_M_isOutcome_130 (hk66 := ih) H
        · rw [if_neg c8] at H
          cases H
      · rw [if_neg c6] at H
        cases H
