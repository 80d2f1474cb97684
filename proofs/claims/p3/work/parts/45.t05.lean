/-! theorems of the functions, by program -/
set_option maxRecDepth 20000 in
theorem zt_Arrays_fill_c6 {a b L N : Nat} {σ : zS} {τ : zT} {x2 : Int32} {r : zS} (H : zf_Arrays_fill_c6 N σ x2 = some r) : zx_go 0 23 0 [some (.ref 63), some (.int x2), none, none] [] ((119, a, b), zx_pk (zK L) 119, σ, τ, zR) = some (none, ((119, a, b), zx_pk (zK L) 119, r, τ, zR)) := by
  unfold zf_Arrays_fill_c6 at H
  rw [zs_iconst (z := 0) zd_23_0 (by decide)]
  rw [zs_istore_n (x := 0) (ls' := [some (.ref 63), some (.int x2), some (.int 0), none]) zd_23_1 (Nat.le_of_ble_eq_true rfl) rfl]
  rw [zs_aload_n (ls := [some (.ref 63), some (.int x2), some (.int 0), none]) zd_23_2 rfl]
  rw [zs_arraylength (n := 119) (K := zx_pk (zK L) 119) (q := 63) (m := 8192) (z := 8192) zd_23_3 rfl (by decide) (by decide)]
  rw [zs_istore_n (x := 8192) (ls' := [some (.ref 63), some (.int x2), some (.int 0), some (.int 8192)]) zd_23_4 (Nat.le_of_ble_eq_true rfl) rfl]
  exact zt_Arrays_fill_c6_5  H
set_option maxRecDepth 20000 in
theorem zt_Space_isLast {a b L : Nat} {σ : zS} {τ : zT} {x1 : Int32} {r : Int32} (H : zf_Space_isLast σ x1 = some r) : zx_go 1 162 0 [some (.ref 41), some (.int x1)] [] ((119, a, b), zx_pk (zK L) 119, σ, τ, zR) = some (some (.int r), ((119, a, b), zx_pk (zK L) 119, σ, τ, zR)) := by
  unfold zf_Space_isLast at H
  rw [zs_aload_n (ls := [some (.ref 41), some (.int x1)]) zd_162_0 rfl]
  rw [zs_iload_n (ls := [some (.ref 41), some (.int x1)]) zd_162_1 rfl]
  obtain ⟨r1, hr1, H⟩ := Option.bind_eq_some_iff.mp H
  rw [zp_callVi (x := r1) (st := [.int x1, .ref 41]) (as := [.ref 41, .int x1]) (rest := []) (e := 0) zd_162_2 rfl (by decide +kernel) (by decide) rfl rfl (Nat.le_of_ble_eq_true rfl) (zx_rcb_ok rfl (show 41 < 119 by decide)) (Nat.le_of_ble_eq_true rfl) rfl (by decide) (zt_Space_has hr1)]
  by_cases c2 : r1 = 0
  · rw [if_pos c2] at H
    rw [zp_if_eq_t (x := r1) (t := 21) zd_162_5 rfl c2]
    rw [zs_iconst (z := 0) zd_162_21 (by decide)]
    have H := Option.some.inj H
    subst H
    exact zs_ireturn zd_162_22 (by decide +kernel)
  · rw [if_neg c2] at H
    rw [zp_if_eq_f (x := r1) (t := 21) zd_162_5 rfl c2]
    rw [zs_aload_n (ls := [some (.ref 41), some (.int x1)]) zd_162_8 rfl]
    rw [zs_getR (n := 119) (K := zx_pk (zK L) 119) (ρ := zR) (c := 8) (k := 4) (q := 41) (p := 44) zd_162_9 rfl rfl rfl (by decide) rfl]
    rw [zs_iload_n (ls := [some (.ref 41), some (.int x1)]) zd_162_12 rfl]
    by_cases c3 : 0 ≤ x1 ∧ x1 < 4000
    · rw [if_pos c3] at H
      rw [zp_zaload (n := 119) (K := zx_pk (zK L) 119) (σ := σ) (q := 44) (m := 4000) (i := x1) (k := x1.toNatClampNeg) (v := (σ 44 x1.toNatClampNeg)) zd_162_13 rfl (by decide) (zJ_in c3 rfl) rfl rfl]
      by_cases c4 : (σ 44 x1.toNatClampNeg) = 0
      · rw [if_pos c4] at H
        rw [zp_if_eq_t (x := (σ 44 x1.toNatClampNeg)) (t := 21) zd_162_14 rfl c4]
        rw [zs_iconst (z := 0) zd_162_21 (by decide)]
        have H := Option.some.inj H
        subst H
        exact zs_ireturn zd_162_22 (by decide +kernel)
      · rw [if_neg c4] at H
        rw [zp_if_eq_f (x := (σ 44 x1.toNatClampNeg)) (t := 21) zd_162_14 rfl c4]
        rw [zs_iconst (z := 1) zd_162_17 (by decide)]
        rw [zs_goto (t := 22) zd_162_18 rfl]
        have H := Option.some.inj H
        subst H
        exact zs_ireturn zd_162_22 (by decide +kernel)
    · rw [if_neg c3] at H
      cases H
set_option maxRecDepth 20000 in
theorem zt_Machine_isGone_20 {a b L : Nat} {σ : zS} {τ : zT} {o0 : Option Value} {o1 : Option Value} {o2 : Option Value} {r : Int32} (H : zb_Machine_isGone_20 σ = some r) : zx_go 1 164 20 [o0, o1, o2] [] ((119, a, b), zx_pk (zK L) 119, σ, τ, zR) = some (some (.int r), ((119, a, b), zx_pk (zK L) 119, σ, τ, zR)) := by
  unfold zb_Machine_isGone_20 at H
  rw [zs_iconst (z := 1) zd_164_20 (by decide)]
  rw [zs_goto (t := 25) zd_164_21 rfl]
  have H := Option.some.inj H
  subst H
  exact zs_ireturn zd_164_25 (by decide +kernel)
set_option maxRecDepth 20000 in
theorem zt_Machine_isGone {a b L : Nat} {σ : zS} {τ : zT} {x1 : Int32} {r : Int32} (H : zf_Machine_isGone σ x1 = some r) : zx_go 1 164 0 [some (.ref 35), some (.int x1), none] [] ((119, a, b), zx_pk (zK L) 119, σ, τ, zR) = some (some (.int r), ((119, a, b), zx_pk (zK L) 119, σ, τ, zR)) := by
  unfold zf_Machine_isGone at H
  rw [zs_aload_n (ls := [some (.ref 35), some (.int x1), none]) zd_164_0 rfl]
  rw [zs_iload_n (ls := [some (.ref 35), some (.int x1), none]) zd_164_1 rfl]
  obtain ⟨r1, hr1, H⟩ := Option.bind_eq_some_iff.mp H
  rw [zp_callVi (x := r1) (st := [.int x1, .ref 35]) (as := [.ref 35, .int x1]) (rest := []) (e := 0) zd_164_2 rfl (by decide +kernel) (by decide) rfl rfl (Nat.le_of_ble_eq_true rfl) (zx_rcb_ok rfl (show 35 < 119 by decide)) (Nat.le_of_ble_eq_true rfl) rfl (by decide) (zt_Machine_howOf hr1)]
  rw [zs_istore_n (x := r1) (ls' := [some (.ref 35), some (.int x1), some (.int r1)]) zd_164_5 (Nat.le_of_ble_eq_true rfl) rfl]
  rw [zs_iload_n (ls := [some (.ref 35), some (.int x1), some (.int r1)]) zd_164_6 rfl]
  rw [zs_iconst (z := 4) zd_164_7 (by decide)]
  by_cases c2 : r1 = 4
  · rw [if_pos c2] at H
    rw [zp_icmp_eq_t (x := r1) (y := 4) (t := 20) zd_164_8 rfl c2]
    exact zt_Machine_isGone_20  H
  · rw [if_neg c2] at H
    rw [zp_icmp_eq_f (x := r1) (y := 4) (t := 20) zd_164_8 rfl c2]
    rw [zs_iload_n (ls := [some (.ref 35), some (.int x1), some (.int r1)]) zd_164_11 rfl]
    rw [zs_iconst (z := 5) zd_164_12 (by decide)]
    by_cases c3 : r1 = 5
    · rw [if_pos c3] at H
      rw [zp_icmp_eq_t (x := r1) (y := 5) (t := 20) zd_164_13 rfl c3]
      exact zt_Machine_isGone_20  H
    · rw [if_neg c3] at H
      rw [zp_icmp_eq_f (x := r1) (y := 5) (t := 20) zd_164_13 rfl c3]
      rw [zs_iload_n (ls := [some (.ref 35), some (.int x1), some (.int r1)]) zd_164_16 rfl]
      by_cases c4 : ¬ r1 = 0
      · rw [if_pos c4] at H
        rw [zp_if_ne_t (x := r1) (t := 24) zd_164_17 rfl c4]
        rw [zs_iconst (z := 0) zd_164_24 (by decide)]
        have H := Option.some.inj H
        subst H
        exact zs_ireturn zd_164_25 (by decide +kernel)
      · rw [if_neg c4] at H
        rw [zp_if_ne_f (x := r1) (t := 24) zd_164_17 rfl c4]
        exact zt_Machine_isGone_20  H
set_option maxRecDepth 20000 in
theorem zt_Machine_isOver_2 {a b L N : Nat} : ∀ {n : Nat} {σ : zS} {τ : zT} {v1 : Int32} {r : Int32}, zb_Machine_isOver_2 N n σ v1 = some r → zx_go 2 163 2 [some (.ref 35), some (.int v1)] [] ((119, a, b), zx_pk (zK L) 119, σ, τ, zR) = some (some (.int r), ((119, a, b), zx_pk (zK L) 119, σ, τ, zR)) := by
  intro n
  induction n with
  | zero =>
    intro _ _ _ _ H
    cases H
  | succ n ih =>
    intro σ τ v1 r H
    rw [zb_Machine_isOver_2] at H
    rw [zs_iload_n (ls := [some (.ref 35), some (.int v1)]) zd_163_2 rfl]
    rw [zs_aload_n (ls := [some (.ref 35), some (.int v1)]) zd_163_3 rfl]
    rw [zs_getR (n := 119) (K := zx_pk (zK L) 119) (ρ := zR) (c := 2) (k := 0) (q := 35) (p := 4) zd_163_4 rfl rfl rfl (by decide) rfl]
    rw [zp_getI (n := 119) (K := zx_pk (zK L) 119) (σ := σ) (c := 6) (k := 2) (q := 4) (v := (σ 4 2)) zd_163_7 rfl rfl rfl (by decide) rfl]
    by_cases c1 : (σ 4 2) ≤ v1
    · rw [if_pos c1] at H
      rw [zp_icmp_ge_t (x := v1) (y := (σ 4 2)) (t := 29) zd_163_10 rfl c1]
      rw [zs_iconst (z := 1) zd_163_29 (by decide)]
      have H := Option.some.inj H
      subst H
      exact zs_ireturn zd_163_30 (by decide +kernel)
    · rw [if_neg c1] at H
      rw [zp_icmp_ge_f (x := v1) (y := (σ 4 2)) (t := 29) zd_163_10 rfl c1]
      rw [zs_aload_n (ls := [some (.ref 35), some (.int v1)]) zd_163_13 rfl]
      rw [zs_iload_n (ls := [some (.ref 35), some (.int v1)]) zd_163_14 rfl]
      obtain ⟨r2, hr2, H⟩ := Option.bind_eq_some_iff.mp H
      rw [zp_callVi (x := r2) (st := [.int v1, .ref 35]) (as := [.ref 35, .int v1]) (rest := []) (e := 1) zd_163_15 rfl (by decide +kernel) (by decide) rfl rfl (Nat.le_of_ble_eq_true rfl) (zx_rcb_ok rfl (show 35 < 119 by decide)) (Nat.le_of_ble_eq_true rfl) rfl (by decide) (zt_Machine_isGone hr2)]
      by_cases c3 : ¬ r2 = 0
      · rw [if_pos c3] at H
        rw [zp_if_ne_t (x := r2) (t := 23) zd_163_18 rfl c3]
        rw [zs_iinc (ls := [some (.ref 35), some (.int v1)]) (x := v1) (z := (v1 + 1)) (ls' := [some (.ref 35), some (.int (v1 + 1))]) zd_163_23 rfl rfl rfl]
        rw [zs_goto (t := 2) zd_163_26 rfl]
        exact ih H
      · rw [if_neg c3] at H
        rw [zp_if_ne_f (x := r2) (t := 23) zd_163_18 rfl c3]
        rw [zs_iconst (z := 0) zd_163_21 (by decide)]
        have H := Option.some.inj H
        subst H
        exact zs_ireturn zd_163_22 (by decide +kernel)
set_option maxRecDepth 20000 in
theorem zt_Machine_isOver {a b L N : Nat} {σ : zS} {τ : zT} {r : Int32} (H : zf_Machine_isOver N σ = some r) : zx_go 2 163 0 [some (.ref 35), none] [] ((119, a, b), zx_pk (zK L) 119, σ, τ, zR) = some (some (.int r), ((119, a, b), zx_pk (zK L) 119, σ, τ, zR)) := by
  unfold zf_Machine_isOver at H
  rw [zs_iconst (z := 0) zd_163_0 (by decide)]
  rw [zs_istore_n (x := 0) (ls' := [some (.ref 35), some (.int 0)]) zd_163_1 (Nat.le_of_ble_eq_true rfl) rfl]
  exact zt_Machine_isOver_2  H
set_option maxRecDepth 20000 in
theorem zt_Machine_failed_30 {a b L N : Nat} {k4 : zS → Int32 → Int32 → Option (Int32)} (hk4 : ∀ {σ : zS} {τ : zT} {v1 : Int32} {v2 : Int32} {r : Int32}, k4 σ v1 v2 = some r → zx_go 1 160 4 [some (.ref 35), some (.int v1), some (.int v2)] [] ((119, a, b), zx_pk (zK L) 119, σ, τ, zR) = some (some (.int r), ((119, a, b), zx_pk (zK L) 119, σ, τ, zR))) {σ : zS} {τ : zT} {v1 : Int32} {v2 : Int32} {r : Int32} (H : zb_Machine_failed_30 k4 N σ v1 v2 = some r) : zx_go 1 160 30 [some (.ref 35), some (.int v1), some (.int v2)] [] ((119, a, b), zx_pk (zK L) 119, σ, τ, zR) = some (some (.int r), ((119, a, b), zx_pk (zK L) 119, σ, τ, zR)) := by
  unfold zb_Machine_failed_30 at H
  rw [zs_iinc (ls := [some (.ref 35), some (.int v1), some (.int v2)]) (x := v2) (z := (v2 + 1)) (ls' := [some (.ref 35), some (.int v1), some (.int (v2 + 1))]) zd_160_30 rfl rfl rfl]
  rw [zs_goto (t := 4) zd_160_33 rfl]
  exact hk4 H
set_option maxRecDepth 20000 in
theorem zt_Machine_failed_4 {a b L N : Nat} : ∀ {n : Nat} {σ : zS} {τ : zT} {v1 : Int32} {v2 : Int32} {r : Int32}, zb_Machine_failed_4 N n σ v1 v2 = some r → zx_go 1 160 4 [some (.ref 35), some (.int v1), some (.int v2)] [] ((119, a, b), zx_pk (zK L) 119, σ, τ, zR) = some (some (.int r), ((119, a, b), zx_pk (zK L) 119, σ, τ, zR)) := by
  intro n
  induction n with
  | zero =>
    intro _ _ _ _ _ H
    cases H
  | succ n ih =>
    intro σ τ v1 v2 r H
    rw [zb_Machine_failed_4] at H
    rw [zs_iload_n (ls := [some (.ref 35), some (.int v1), some (.int v2)]) zd_160_4 rfl]
    rw [zs_aload_n (ls := [some (.ref 35), some (.int v1), some (.int v2)]) zd_160_5 rfl]
    rw [zs_getR (n := 119) (K := zx_pk (zK L) 119) (ρ := zR) (c := 2) (k := 0) (q := 35) (p := 4) zd_160_6 rfl rfl rfl (by decide) rfl]
    rw [zp_getI (n := 119) (K := zx_pk (zK L) 119) (σ := σ) (c := 6) (k := 2) (q := 4) (v := (σ 4 2)) zd_160_9 rfl rfl rfl (by decide) rfl]
    by_cases c1 : (σ 4 2) ≤ v2
    · rw [if_pos c1] at H
      rw [zp_icmp_ge_t (x := v2) (y := (σ 4 2)) (t := 36) zd_160_12 rfl c1]
      rw [zs_iload_n (ls := [some (.ref 35), some (.int v1), some (.int v2)]) zd_160_36 rfl]
      have H := Option.some.inj H
      subst H
      exact zs_ireturn zd_160_37 rfl
    · rw [if_neg c1] at H
      rw [zp_icmp_ge_f (x := v2) (y := (σ 4 2)) (t := 36) zd_160_12 rfl c1]
      rw [zs_aload_n (ls := [some (.ref 35), some (.int v1), some (.int v2)]) zd_160_15 rfl]
      rw [zs_iload_n (ls := [some (.ref 35), some (.int v1), some (.int v2)]) zd_160_16 rfl]
      obtain ⟨r2, hr2, H⟩ := Option.bind_eq_some_iff.mp H
      rw [zp_callVi (x := r2) (st := [.int v2, .ref 35]) (as := [.ref 35, .int v2]) (rest := []) (e := 0) zd_160_17 rfl (by decide +kernel) (by decide) rfl rfl (Nat.le_of_ble_eq_true rfl) (zx_rcb_ok rfl (show 35 < 119 by decide)) (Nat.le_of_ble_eq_true rfl) rfl (by decide) (zt_Machine_howOf hr2)]
      rw [zs_iconst (z := 5) zd_160_20 (by decide)]
      by_cases c3 : ¬ r2 = 5
      · rw [if_pos c3] at H
        rw [zp_icmp_ne_t (x := r2) (y := 5) (t := 30) zd_160_21 rfl c3]
        exact zt_Machine_failed_30 (hk4 := ih) H
      · rw [if_neg c3] at H
        rw [zp_icmp_ne_f (x := r2) (y := 5) (t := 30) zd_160_21 rfl c3]
        rw [zs_iload_n (ls := [some (.ref 35), some (.int v1), some (.int v2)]) zd_160_24 rfl]
        rw [zs_iconst (z := 1) zd_160_25 (by decide)]
        rw [zs_iload_n (ls := [some (.ref 35), some (.int v1), some (.int v2)]) zd_160_26 rfl]
        rw [zp_ishl (x := 1) (y := v2) (z := (zJ_shl 1 v2)) zd_160_27 rfl]
        rw [zp_ior (x := v1) (y := (zJ_shl 1 v2)) (z := (v1 ||| (zJ_shl 1 v2))) zd_160_28 rfl]
        rw [zs_istore_n (x := (v1 ||| (zJ_shl 1 v2))) (ls' := [some (.ref 35), some (.int (v1 ||| (zJ_shl 1 v2))), some (.int v2)]) zd_160_29 (Nat.le_of_ble_eq_true rfl) rfl]
        exact zt_Machine_failed_30 (hk4 := ih) H
set_option maxRecDepth 20000 in
theorem zt_Machine_failed {a b L N : Nat} {σ : zS} {τ : zT} {r : Int32} (H : zf_Machine_failed N σ = some r) : zx_go 1 160 0 [some (.ref 35), none, none] [] ((119, a, b), zx_pk (zK L) 119, σ, τ, zR) = some (some (.int r), ((119, a, b), zx_pk (zK L) 119, σ, τ, zR)) := by
  unfold zf_Machine_failed at H
  rw [zs_iconst (z := 0) zd_160_0 (by decide)]
  rw [zs_istore_n (x := 0) (ls' := [some (.ref 35), some (.int 0), none]) zd_160_1 (Nat.le_of_ble_eq_true rfl) rfl]
  rw [zs_iconst (z := 0) zd_160_2 (by decide)]
  rw [zs_istore_n (x := 0) (ls' := [some (.ref 35), some (.int 0), some (.int 0)]) zd_160_3 (Nat.le_of_ble_eq_true rfl) rfl]
  exact zt_Machine_failed_4  H
set_option maxRecDepth 20000 in
theorem zt_Machine_outcome_12 {a b L N : Nat} {σ : zS} {τ : zT} {s0 : Int32} {o1 : Option Value} {r : Int32} (H : zb_Machine_outcome_12 N σ s0 = some r) : zx_go 3 170 12 [some (.ref 35), o1] [.int s0] ((119, a, b), zx_pk (zK L) 119, σ, τ, zR) = some (some (.int r), ((119, a, b), zx_pk (zK L) 119, σ, τ, zR)) := by
  unfold zb_Machine_outcome_12 at H
  rw [zs_istore_n (x := s0) (ls' := [some (.ref 35), some (.int s0)]) zd_170_12 (Nat.le_of_ble_eq_true rfl) rfl]
  rw [zs_aload_n (ls := [some (.ref 35), some (.int s0)]) zd_170_13 rfl]
  rw [zs_getR (n := 119) (K := zx_pk (zK L) 119) (ρ := zR) (c := 2) (k := 4) (q := 35) (p := 39) zd_170_14 rfl rfl rfl (by decide) rfl]
  rw [zs_iconst (z := 0) zd_170_17 (by decide)]
  rw [zp_iaload (n := 119) (K := zx_pk (zK L) 119) (σ := σ) (q := 39) (m := 5) (i := 0) (k := 0) (v := (σ 39 0)) zd_170_18 rfl (by decide) (by decide) (by decide) rfl]
  rw [zs_aload_n (ls := [some (.ref 35), some (.int s0)]) zd_170_19 rfl]
  obtain ⟨r3, hr3, H⟩ := Option.bind_eq_some_iff.mp H
  rw [zp_callVi (x := r3) (st := [.ref 35, .int (σ 39 0)]) (as := [.ref 35]) (rest := [.int (σ 39 0)]) (e := 1) zd_170_20 rfl (by decide +kernel) (by decide) rfl rfl (Nat.le_of_ble_eq_true rfl) (zx_rcb_ok rfl (show 35 < 119 by decide)) (Nat.le_of_ble_eq_true rfl) rfl (by decide) (zt_Machine_failed hr3)]
  rw [zs_bipush (z := 18) zd_170_23 (by decide)]
  rw [zp_ishl (x := r3) (y := 18) (z := (zJ_shl r3 18)) zd_170_25 rfl]
  rw [zp_ior (x := (σ 39 0)) (y := (zJ_shl r3 18)) (z := ((σ 39 0) ||| (zJ_shl r3 18))) zd_170_26 rfl]
  rw [zs_iload_n (ls := [some (.ref 35), some (.int s0)]) zd_170_27 rfl]
  rw [zs_bipush (z := 22) zd_170_28 (by decide)]
  rw [zp_ishl (x := s0) (y := 22) (z := (zJ_shl s0 22)) zd_170_30 rfl]
  rw [zp_ior (x := ((σ 39 0) ||| (zJ_shl r3 18))) (y := (zJ_shl s0 22)) (z := (((σ 39 0) ||| (zJ_shl r3 18)) ||| (zJ_shl s0 22))) zd_170_31 rfl]
  have H := Option.some.inj H
  subst H
  exact zs_ireturn zd_170_32 rfl
set_option maxRecDepth 20000 in
theorem zt_Machine_outcome {a b L N : Nat} {σ : zS} {τ : zT} {r : Int32} (H : zf_Machine_outcome N σ = some r) : zx_go 3 170 0 [some (.ref 35), none] [] ((119, a, b), zx_pk (zK L) 119, σ, τ, zR) = some (some (.int r), ((119, a, b), zx_pk (zK L) 119, σ, τ, zR)) := by
  unfold zf_Machine_outcome at H
  rw [zs_aload_n (ls := [some (.ref 35), none]) zd_170_0 rfl]
  obtain ⟨r1, hr1, H⟩ := Option.bind_eq_some_iff.mp H
  rw [zp_callVi (x := r1) (st := [.ref 35]) (as := [.ref 35]) (rest := []) (e := 2) zd_170_1 rfl (by decide +kernel) (by decide) rfl rfl (Nat.le_of_ble_eq_true rfl) (zx_rcb_ok rfl (show 35 < 119 by decide)) (Nat.le_of_ble_eq_true rfl) rfl (by decide) (zt_Machine_isOver hr1)]
  by_cases c2 : r1 = 0
  · rw [if_pos c2] at H
    rw [zp_if_eq_t (x := r1) (t := 11) zd_170_4 rfl c2]
    rw [zs_iconst (z := 1) zd_170_11 (by decide)]
    exact zt_Machine_outcome_12  H
  · rw [if_neg c2] at H
    rw [zp_if_eq_f (x := r1) (t := 11) zd_170_4 rfl c2]
    rw [zs_iconst (z := 0) zd_170_7 (by decide)]
    rw [zs_goto (t := 12) zd_170_8 rfl]
    exact zt_Machine_outcome_12  H
set_option maxRecDepth 20000 in
theorem zt_Numbers_get_21 {a b L : Nat} {σ : zS} {τ : zT} {o0 : Option Value} {o1 : Option Value} {r : Int32} (H : zb_Numbers_get_21 σ = some r) : zx_go 0 173 21 [o0, o1] [] ((119, a, b), zx_pk (zK L) 119, σ, τ, zR) = some (some (.int r), ((119, a, b), zx_pk (zK L) 119, σ, τ, zR)) := by
  unfold zb_Numbers_get_21 at H
  rw [zs_iconst (z := (-1)) zd_173_21 (by decide)]
  rw [zs_goto (t := 31) zd_173_22 rfl]
  have H := Option.some.inj H
  subst H
  exact zs_ireturn zd_173_31 (by decide +kernel)
set_option maxRecDepth 20000 in
theorem zt_Numbers_get {a b L : Nat} {σ : zS} {τ : zT} {x1 : Int32} {r : Int32} (H : zf_Numbers_get σ x1 = some r) : zx_go 0 173 0 [some (.ref 59), some (.int x1)] [] ((119, a, b), zx_pk (zK L) 119, σ, τ, zR) = some (some (.int r), ((119, a, b), zx_pk (zK L) 119, σ, τ, zR)) := by
  unfold zf_Numbers_get at H
  rw [zs_iload_n (ls := [some (.ref 59), some (.int x1)]) zd_173_0 rfl]
  by_cases c1 : x1 < 0
  · rw [if_pos c1] at H
    rw [zp_if_lt_t (x := x1) (t := 21) zd_173_1 rfl c1]
    exact zt_Numbers_get_21  H
  · rw [if_neg c1] at H
    rw [zp_if_lt_f (x := x1) (t := 21) zd_173_1 rfl c1]
    rw [zs_iload_n (ls := [some (.ref 59), some (.int x1)]) zd_173_4 rfl]
    rw [zs_aload_n (ls := [some (.ref 59), some (.int x1)]) zd_173_5 rfl]
    rw [zp_getI (n := 119) (K := zx_pk (zK L) 119) (σ := σ) (c := 4) (k := 1) (q := 59) (v := (σ 59 1)) zd_173_6 rfl rfl rfl (by decide) rfl]
    by_cases c2 : (σ 59 1) ≤ x1
    · rw [if_pos c2] at H
      rw [zp_icmp_ge_t (x := x1) (y := (σ 59 1)) (t := 21) zd_173_9 rfl c2]
      exact zt_Numbers_get_21  H
    · rw [if_neg c2] at H
      rw [zp_icmp_ge_f (x := x1) (y := (σ 59 1)) (t := 21) zd_173_9 rfl c2]
      rw [zs_iload_n (ls := [some (.ref 59), some (.int x1)]) zd_173_12 rfl]
      rw [zs_aload_n (ls := [some (.ref 59), some (.int x1)]) zd_173_13 rfl]
      rw [zs_getR (n := 119) (K := zx_pk (zK L) 119) (ρ := zR) (c := 4) (k := 0) (q := 59) (p := 60) zd_173_14 rfl rfl rfl (by decide) rfl]
      rw [zs_arraylength (n := 119) (K := zx_pk (zK L) 119) (q := 60) (m := 4000) (z := 4000) zd_173_17 rfl (by decide) (by decide)]
      by_cases c3 : x1 < 4000
      · rw [if_pos c3] at H
        rw [zp_icmp_lt_t (x := x1) (y := 4000) (t := 25) zd_173_18 rfl c3]
        rw [zs_aload_n (ls := [some (.ref 59), some (.int x1)]) zd_173_25 rfl]
        rw [zs_getR (n := 119) (K := zx_pk (zK L) 119) (ρ := zR) (c := 4) (k := 0) (q := 59) (p := 60) zd_173_26 rfl rfl rfl (by decide) rfl]
        rw [zs_iload_n (ls := [some (.ref 59), some (.int x1)]) zd_173_29 rfl]
        by_cases c4 : 0 ≤ x1 ∧ x1 < 4000
        · rw [if_pos c4] at H
          rw [zp_iaload (n := 119) (K := zx_pk (zK L) 119) (σ := σ) (q := 60) (m := 4000) (i := x1) (k := x1.toNatClampNeg) (v := (σ 60 x1.toNatClampNeg)) zd_173_30 rfl (by decide) (zJ_in c4 rfl) rfl rfl]
          have H := Option.some.inj H
          subst H
          exact zs_ireturn zd_173_31 rfl
        · rw [if_neg c4] at H
          cases H
      · rw [if_neg c3] at H
        rw [zp_icmp_lt_f (x := x1) (y := 4000) (t := 25) zd_173_18 rfl c3]
        exact zt_Numbers_get_21  H
set_option maxRecDepth 20000 in
theorem zt_Outcomes_slotOf_19 {a b L N : Nat} : ∀ {n : Nat} {σ : zS} {τ : zT} {v1 : Int32} {v3 : Int32} {v4 : Int32} {o2 : Option Value} {r : Int32}, zb_Outcomes_slotOf_19 N n σ v1 v3 v4 = some r → zx_go 1 172 19 [some (.ref 58), some (.int v1), o2, some (.int v3), some (.int v4)] [] ((119, a, b), zx_pk (zK L) 119, σ, τ, zR) = some (some (.int r), ((119, a, b), zx_pk (zK L) 119, σ, τ, zR)) := by
  intro n
  induction n with
  | zero =>
    intro _ _ _ _ _ _ _ H
    cases H
  | succ n ih =>
    intro σ τ v1 v3 v4 o2 r H
    rw [zb_Outcomes_slotOf_19] at H
    rw [zs_iload (ls := [some (.ref 58), some (.int v1), o2, some (.int v3), some (.int v4)]) zd_172_19 rfl]
    rw [zs_sipush (z := 8192) zd_172_21 (by decide)]
    by_cases c1 : 8192 ≤ v4
    · rw [if_pos c1] at H
      rw [zp_icmp_ge_t (x := v4) (y := 8192) (t := 71) zd_172_24 rfl c1]
      rw [zs_iload_n (ls := [some (.ref 58), some (.int v1), o2, some (.int v3), some (.int v4)]) zd_172_71 rfl]
      have H := Option.some.inj H
      subst H
      exact zs_ireturn zd_172_72 rfl
    · rw [if_neg c1] at H
      rw [zp_icmp_ge_f (x := v4) (y := 8192) (t := 71) zd_172_24 rfl c1]
      rw [zs_aload_n (ls := [some (.ref 58), some (.int v1), o2, some (.int v3), some (.int v4)]) zd_172_27 rfl]
      rw [zs_getR (n := 119) (K := zx_pk (zK L) 119) (ρ := zR) (c := 5) (k := 3) (q := 58) (p := 63) zd_172_28 rfl rfl rfl (by decide) rfl]
      rw [zs_iload_n (ls := [some (.ref 58), some (.int v1), o2, some (.int v3), some (.int v4)]) zd_172_31 rfl]
      by_cases c2 : 0 ≤ v3 ∧ v3 < 8192
      · rw [if_pos c2] at H
        rw [zp_iaload (n := 119) (K := zx_pk (zK L) 119) (σ := σ) (q := 63) (m := 8192) (i := v3) (k := v3.toNatClampNeg) (v := (σ 63 v3.toNatClampNeg)) zd_172_32 rfl (by decide) (zJ_in c2 rfl) rfl rfl]
        by_cases c3 : (σ 63 v3.toNatClampNeg) = 0
        · rw [if_pos c3] at H
          rw [zp_if_eq_t (x := (σ 63 v3.toNatClampNeg)) (t := 71) zd_172_33 rfl c3]
          rw [zs_iload_n (ls := [some (.ref 58), some (.int v1), o2, some (.int v3), some (.int v4)]) zd_172_71 rfl]
          have H := Option.some.inj H
          subst H
          exact zs_ireturn zd_172_72 rfl
        · rw [if_neg c3] at H
          rw [zp_if_eq_f (x := (σ 63 v3.toNatClampNeg)) (t := 71) zd_172_33 rfl c3]
          rw [zs_aload_n (ls := [some (.ref 58), some (.int v1), o2, some (.int v3), some (.int v4)]) zd_172_36 rfl]
          rw [zs_getR (n := 119) (K := zx_pk (zK L) 119) (ρ := zR) (c := 5) (k := 1) (q := 58) (p := 59) zd_172_37 rfl rfl rfl (by decide) rfl]
          rw [zs_aload_n (ls := [some (.ref 58), some (.int v1), o2, some (.int v3), some (.int v4)]) zd_172_40 rfl]
          rw [zs_getR (n := 119) (K := zx_pk (zK L) 119) (ρ := zR) (c := 5) (k := 3) (q := 58) (p := 63) zd_172_41 rfl rfl rfl (by decide) rfl]
          rw [zs_iload_n (ls := [some (.ref 58), some (.int v1), o2, some (.int v3), some (.int v4)]) zd_172_44 rfl]
          by_cases c4 : 0 ≤ v3 ∧ v3 < 8192
          · rw [if_pos c4] at H
            rw [zp_iaload (n := 119) (K := zx_pk (zK L) 119) (σ := σ) (q := 63) (m := 8192) (i := v3) (k := v3.toNatClampNeg) (v := (σ 63 v3.toNatClampNeg)) zd_172_45 rfl (by decide) (zJ_in c4 rfl) rfl rfl]
            rw [zs_iconst (z := 1) zd_172_46 (by decide)]
            rw [zp_isub (x := (σ 63 v3.toNatClampNeg)) (y := 1) (z := ((σ 63 v3.toNatClampNeg) - 1)) zd_172_47 rfl]
            obtain ⟨r5, hr5, H⟩ := Option.bind_eq_some_iff.mp H
            rw [zp_callVi (x := r5) (st := [.int ((σ 63 v3.toNatClampNeg) - 1), .ref 59]) (as := [.ref 59, .int ((σ 63 v3.toNatClampNeg) - 1)]) (rest := []) (e := 0) zd_172_48 rfl (by decide +kernel) (by decide) rfl rfl (Nat.le_of_ble_eq_true rfl) (zx_rcb_ok rfl (show 59 < 119 by decide)) (Nat.le_of_ble_eq_true rfl) rfl (by decide) (zt_Numbers_get hr5)]
            rw [zs_iload_n (ls := [some (.ref 58), some (.int v1), o2, some (.int v3), some (.int v4)]) zd_172_51 rfl]
            by_cases c6 : ¬ r5 = v1
            · rw [if_pos c6] at H
              rw [zp_icmp_ne_t (x := r5) (y := v1) (t := 57) zd_172_52 rfl c6]
              rw [zs_iload_n (ls := [some (.ref 58), some (.int v1), o2, some (.int v3), some (.int v4)]) zd_172_57 rfl]
              rw [zs_iconst (z := 1) zd_172_58 (by decide)]
              rw [zp_iadd (x := v3) (y := 1) (z := (v3 + 1)) zd_172_59 rfl]
              rw [zs_sipush (z := 8191) zd_172_60 (by decide)]
              rw [zp_iand (x := (v3 + 1)) (y := 8191) (z := ((v3 + 1) &&& 8191)) zd_172_63 rfl]
              rw [zs_istore_n (x := ((v3 + 1) &&& 8191)) (ls' := [some (.ref 58), some (.int v1), (zJ_cl o2), some (.int ((v3 + 1) &&& 8191)), some (.int v4)]) zd_172_64 (Nat.le_of_ble_eq_true rfl) (zJ_s1 (k := 2) (o := o2) rfl)]
              rw [zs_iinc (ls := [some (.ref 58), some (.int v1), (zJ_cl o2), some (.int ((v3 + 1) &&& 8191)), some (.int v4)]) (x := v4) (z := (v4 + 1)) (ls' := [some (.ref 58), some (.int v1), (zJ_cl o2), some (.int ((v3 + 1) &&& 8191)), some (.int (v4 + 1))]) zd_172_65 rfl rfl rfl]
              rw [zs_goto (t := 19) zd_172_68 rfl]
              exact ih H
            · rw [if_neg c6] at H
              rw [zp_icmp_ne_f (x := r5) (y := v1) (t := 57) zd_172_52 rfl c6]
              rw [zs_iload_n (ls := [some (.ref 58), some (.int v1), o2, some (.int v3), some (.int v4)]) zd_172_55 rfl]
              have H := Option.some.inj H
              subst H
              exact zs_ireturn zd_172_56 rfl
          · rw [if_neg c4] at H
            cases H
      · rw [if_neg c2] at H
        cases H
set_option maxRecDepth 20000 in
theorem zt_Outcomes_slotOf {a b L N : Nat} {σ : zS} {τ : zT} {x1 : Int32} {r : Int32} (H : zf_Outcomes_slotOf N σ x1 = some r) : zx_go 1 172 0 [some (.ref 58), some (.int x1), none, none, none] [] ((119, a, b), zx_pk (zK L) 119, σ, τ, zR) = some (some (.int r), ((119, a, b), zx_pk (zK L) 119, σ, τ, zR)) := by
  unfold zf_Outcomes_slotOf at H
  rw [zs_iload_n (ls := [some (.ref 58), some (.int x1), none, none, none]) zd_172_0 rfl]
  rw [zs_ldc (x := (-1640531535)) zd_172_1 rfl]
  rw [zp_imul (x := x1) (y := (-1640531535)) (z := (x1 * (-1640531535))) zd_172_3 rfl]
  rw [zs_istore_n (x := (x1 * (-1640531535))) (ls' := [some (.ref 58), some (.int x1), some (.int (x1 * (-1640531535))), none, none]) zd_172_4 (Nat.le_of_ble_eq_true rfl) rfl]
  rw [zs_iload_n (ls := [some (.ref 58), some (.int x1), some (.int (x1 * (-1640531535))), none, none]) zd_172_5 rfl]
  rw [zs_iload_n (ls := [some (.ref 58), some (.int x1), some (.int (x1 * (-1640531535))), none, none]) zd_172_6 rfl]
  rw [zs_bipush (z := 15) zd_172_7 (by decide)]
  rw [zp_iushr (x := (x1 * (-1640531535))) (y := 15) (z := (zJ_ushr (x1 * (-1640531535)) 15)) zd_172_9 rfl]
  rw [zp_ixor (x := (x1 * (-1640531535))) (y := (zJ_ushr (x1 * (-1640531535)) 15)) (z := ((x1 * (-1640531535)) ^^^ (zJ_ushr (x1 * (-1640531535)) 15))) zd_172_10 rfl]
  rw [zs_sipush (z := 8191) zd_172_11 (by decide)]
  rw [zp_iand (x := ((x1 * (-1640531535)) ^^^ (zJ_ushr (x1 * (-1640531535)) 15))) (y := 8191) (z := (((x1 * (-1640531535)) ^^^ (zJ_ushr (x1 * (-1640531535)) 15)) &&& 8191)) zd_172_14 rfl]
  rw [zs_istore_n (x := (((x1 * (-1640531535)) ^^^ (zJ_ushr (x1 * (-1640531535)) 15)) &&& 8191)) (ls' := [some (.ref 58), some (.int x1), some (.int (x1 * (-1640531535))), some (.int (((x1 * (-1640531535)) ^^^ (zJ_ushr (x1 * (-1640531535)) 15)) &&& 8191)), none]) zd_172_15 (Nat.le_of_ble_eq_true rfl) rfl]
  rw [zs_iconst (z := 0) zd_172_16 (by decide)]
  rw [zs_istore (x := 0) (ls' := [some (.ref 58), some (.int x1), some (.int (x1 * (-1640531535))), some (.int (((x1 * (-1640531535)) ^^^ (zJ_ushr (x1 * (-1640531535)) 15)) &&& 8191)), some (.int 0)]) zd_172_17 (Nat.le_of_ble_eq_true rfl) rfl]
  exact zt_Outcomes_slotOf_19  H
set_option maxRecDepth 20000 in
theorem zt_Numbers_add_c2 {a b L : Nat} {σ : zS} {τ : zT} {x1 : Int32} {r : zS} (H : zf_Numbers_add_c2 σ x1 = some r) : zx_go 0 161 0 [some (.ref 59), some (.int x1)] [] ((119, a, b), zx_pk (zK L) 119, σ, τ, zR) = some (none, ((119, a, b), zx_pk (zK L) 119, r, τ, zR)) := by
  unfold zf_Numbers_add_c2 at H
  rw [zs_aload_n (ls := [some (.ref 59), some (.int x1)]) zd_161_0 rfl]
  rw [zp_getI (n := 119) (K := zx_pk (zK L) 119) (σ := σ) (c := 4) (k := 1) (q := 59) (v := (σ 59 1)) zd_161_1 rfl rfl rfl (by decide) rfl]
  by_cases c1 : (σ 59 1) < 0
  · rw [if_pos c1] at H
    rw [zp_if_lt_t (x := (σ 59 1)) (t := 39) zd_161_4 rfl c1]
    have H := Option.some.inj H
    subst H
    exact zs_return zd_161_39 (by decide +kernel)
  · rw [if_neg c1] at H
    rw [zp_if_lt_f (x := (σ 59 1)) (t := 39) zd_161_4 rfl c1]
    rw [zs_aload_n (ls := [some (.ref 59), some (.int x1)]) zd_161_7 rfl]
    rw [zp_getI (n := 119) (K := zx_pk (zK L) 119) (σ := σ) (c := 4) (k := 1) (q := 59) (v := (σ 59 1)) zd_161_8 rfl rfl rfl (by decide) rfl]
    rw [zs_aload_n (ls := [some (.ref 59), some (.int x1)]) zd_161_11 rfl]
    rw [zs_getR (n := 119) (K := zx_pk (zK L) 119) (ρ := zR) (c := 4) (k := 0) (q := 59) (p := 60) zd_161_12 rfl rfl rfl (by decide) rfl]
    rw [zs_arraylength (n := 119) (K := zx_pk (zK L) 119) (q := 60) (m := 4000) (z := 4000) zd_161_15 rfl (by decide) (by decide)]
    by_cases c2 : 4000 ≤ (σ 59 1)
    · rw [if_pos c2] at H
      rw [zp_icmp_ge_t (x := (σ 59 1)) (y := 4000) (t := 39) zd_161_16 rfl c2]
      have H := Option.some.inj H
      subst H
      exact zs_return zd_161_39 (by decide +kernel)
    · rw [if_neg c2] at H
      rw [zp_icmp_ge_f (x := (σ 59 1)) (y := 4000) (t := 39) zd_161_16 rfl c2]
      rw [zs_aload_n (ls := [some (.ref 59), some (.int x1)]) zd_161_19 rfl]
      rw [zs_getR (n := 119) (K := zx_pk (zK L) 119) (ρ := zR) (c := 4) (k := 0) (q := 59) (p := 60) zd_161_20 rfl rfl rfl (by decide) rfl]
      rw [zs_aload_n (ls := [some (.ref 59), some (.int x1)]) zd_161_23 rfl]
      rw [zp_getI (n := 119) (K := zx_pk (zK L) 119) (σ := σ) (c := 4) (k := 1) (q := 59) (v := (σ 59 1)) zd_161_24 rfl rfl rfl (by decide) rfl]
      rw [zs_iload_n (ls := [some (.ref 59), some (.int x1)]) zd_161_27 rfl]
      by_cases c3 : 0 ≤ (σ 59 1) ∧ (σ 59 1) < 4000
      · rw [if_pos c3] at H
        rw [zp_iastore (n := 119) (K := zx_pk (zK L) 119) (q := 60) (m := 4000) (i := (σ 59 1)) (k := (σ 59 1).toNatClampNeg) (x := x1) (z := x1) zd_161_28 rfl ⟨by decide, by decide⟩ (zJ_in c3 rfl) rfl rfl]
        rw [zs_aload_n (ls := [some (.ref 59), some (.int x1)]) zd_161_29 rfl]
        rw [zs_dup (a := .ref 59) zd_161_30 rfl]
        rw [zp_getI (n := 119) (K := zx_pk (zK L) 119) (σ := (zx_up σ 60 (σ 59 1).toNatClampNeg x1)) (c := 4) (k := 1) (q := 59) (v := (σ 59 1)) zd_161_31 rfl rfl rfl (by decide) (show ((zx_up σ 60 (σ 59 1).toNatClampNeg x1) : zS) 59 1 = (σ 59 1) from ((zx_up_ne (by decide)).trans rfl))]
        rw [zs_iconst (z := 1) zd_161_34 (by decide)]
        rw [zp_iadd (x := (σ 59 1)) (y := 1) (z := ((σ 59 1) + 1)) zd_161_35 rfl]
        rw [zs_putI (n := 119) (K := zx_pk (zK L) 119) (c := 4) (k := 1) (q := 59) (x := ((σ 59 1) + 1)) zd_161_36 rfl rfl (by decide +kernel) rfl (by decide)]
        have H := Option.some.inj H
        subst H
        exact zs_return zd_161_39 (by decide +kernel)
      · rw [if_neg c3] at H
        cases H
set_option maxRecDepth 20000 in
theorem zt_Numbers_add_c3 {a b L : Nat} {σ : zS} {τ : zT} {x1 : Int32} {r : zS} (H : zf_Numbers_add_c3 σ x1 = some r) : zx_go 0 161 0 [some (.ref 61), some (.int x1)] [] ((119, a, b), zx_pk (zK L) 119, σ, τ, zR) = some (none, ((119, a, b), zx_pk (zK L) 119, r, τ, zR)) := by
  unfold zf_Numbers_add_c3 at H
  rw [zs_aload_n (ls := [some (.ref 61), some (.int x1)]) zd_161_0 rfl]
  rw [zp_getI (n := 119) (K := zx_pk (zK L) 119) (σ := σ) (c := 4) (k := 1) (q := 61) (v := (σ 61 1)) zd_161_1 rfl rfl rfl (by decide) rfl]
  by_cases c1 : (σ 61 1) < 0
  · rw [if_pos c1] at H
    rw [zp_if_lt_t (x := (σ 61 1)) (t := 39) zd_161_4 rfl c1]
    have H := Option.some.inj H
    subst H
    exact zs_return zd_161_39 (by decide +kernel)
  · rw [if_neg c1] at H
    rw [zp_if_lt_f (x := (σ 61 1)) (t := 39) zd_161_4 rfl c1]
    rw [zs_aload_n (ls := [some (.ref 61), some (.int x1)]) zd_161_7 rfl]
    rw [zp_getI (n := 119) (K := zx_pk (zK L) 119) (σ := σ) (c := 4) (k := 1) (q := 61) (v := (σ 61 1)) zd_161_8 rfl rfl rfl (by decide) rfl]
    rw [zs_aload_n (ls := [some (.ref 61), some (.int x1)]) zd_161_11 rfl]
    rw [zs_getR (n := 119) (K := zx_pk (zK L) 119) (ρ := zR) (c := 4) (k := 0) (q := 61) (p := 62) zd_161_12 rfl rfl rfl (by decide) rfl]
    rw [zs_arraylength (n := 119) (K := zx_pk (zK L) 119) (q := 62) (m := 4000) (z := 4000) zd_161_15 rfl (by decide) (by decide)]
    by_cases c2 : 4000 ≤ (σ 61 1)
    · rw [if_pos c2] at H
      rw [zp_icmp_ge_t (x := (σ 61 1)) (y := 4000) (t := 39) zd_161_16 rfl c2]
      have H := Option.some.inj H
      subst H
      exact zs_return zd_161_39 (by decide +kernel)
    · rw [if_neg c2] at H
      rw [zp_icmp_ge_f (x := (σ 61 1)) (y := 4000) (t := 39) zd_161_16 rfl c2]
      rw [zs_aload_n (ls := [some (.ref 61), some (.int x1)]) zd_161_19 rfl]
      rw [zs_getR (n := 119) (K := zx_pk (zK L) 119) (ρ := zR) (c := 4) (k := 0) (q := 61) (p := 62) zd_161_20 rfl rfl rfl (by decide) rfl]
      rw [zs_aload_n (ls := [some (.ref 61), some (.int x1)]) zd_161_23 rfl]
      rw [zp_getI (n := 119) (K := zx_pk (zK L) 119) (σ := σ) (c := 4) (k := 1) (q := 61) (v := (σ 61 1)) zd_161_24 rfl rfl rfl (by decide) rfl]
      rw [zs_iload_n (ls := [some (.ref 61), some (.int x1)]) zd_161_27 rfl]
      by_cases c3 : 0 ≤ (σ 61 1) ∧ (σ 61 1) < 4000
      · rw [if_pos c3] at H
        rw [zp_iastore (n := 119) (K := zx_pk (zK L) 119) (q := 62) (m := 4000) (i := (σ 61 1)) (k := (σ 61 1).toNatClampNeg) (x := x1) (z := x1) zd_161_28 rfl ⟨by decide, by decide⟩ (zJ_in c3 rfl) rfl rfl]
        rw [zs_aload_n (ls := [some (.ref 61), some (.int x1)]) zd_161_29 rfl]
        rw [zs_dup (a := .ref 61) zd_161_30 rfl]
        rw [zp_getI (n := 119) (K := zx_pk (zK L) 119) (σ := (zx_up σ 62 (σ 61 1).toNatClampNeg x1)) (c := 4) (k := 1) (q := 61) (v := (σ 61 1)) zd_161_31 rfl rfl rfl (by decide) (show ((zx_up σ 62 (σ 61 1).toNatClampNeg x1) : zS) 61 1 = (σ 61 1) from ((zx_up_ne (by decide)).trans rfl))]
        rw [zs_iconst (z := 1) zd_161_34 (by decide)]
        rw [zp_iadd (x := (σ 61 1)) (y := 1) (z := ((σ 61 1) + 1)) zd_161_35 rfl]
        rw [zs_putI (n := 119) (K := zx_pk (zK L) 119) (c := 4) (k := 1) (q := 61) (x := ((σ 61 1) + 1)) zd_161_36 rfl rfl (by decide +kernel) rfl (by decide)]
        have H := Option.some.inj H
        subst H
        exact zs_return zd_161_39 (by decide +kernel)
      · rw [if_neg c3] at H
        cases H
set_option maxRecDepth 20000 in
theorem zt_Outcomes_note {a b L N : Nat} {σ : zS} {τ : zT} {x1 : Int32} {x2 : Int32} {r : zS} (H : zf_Outcomes_note N σ x1 x2 = some r) : zx_go 2 171 0 [some (.ref 58), some (.int x1), some (.int x2), none] [] ((119, a, b), zx_pk (zK L) 119, σ, τ, zR) = some (none, ((119, a, b), zx_pk (zK L) 119, r, τ, zR)) := by
  unfold zf_Outcomes_note at H
  rw [zs_aload_n (ls := [some (.ref 58), some (.int x1), some (.int x2), none]) zd_171_0 rfl]
  rw [zs_iload_n (ls := [some (.ref 58), some (.int x1), some (.int x2), none]) zd_171_1 rfl]
  obtain ⟨r1, hr1, H⟩ := Option.bind_eq_some_iff.mp H
  rw [zp_callVi (x := r1) (st := [.int x1, .ref 58]) (as := [.ref 58, .int x1]) (rest := []) (e := 1) zd_171_2 rfl (by decide +kernel) (by decide) rfl rfl (Nat.le_of_ble_eq_true rfl) (zx_rcb_ok rfl (show 58 < 119 by decide)) (Nat.le_of_ble_eq_true rfl) rfl (by decide) (zt_Outcomes_slotOf hr1)]
  rw [zs_istore_n (x := r1) (ls' := [some (.ref 58), some (.int x1), some (.int x2), some (.int r1)]) zd_171_5 (Nat.le_of_ble_eq_true rfl) rfl]
  rw [zs_aload_n (ls := [some (.ref 58), some (.int x1), some (.int x2), some (.int r1)]) zd_171_6 rfl]
  rw [zs_getR (n := 119) (K := zx_pk (zK L) 119) (ρ := zR) (c := 5) (k := 3) (q := 58) (p := 63) zd_171_7 rfl rfl rfl (by decide) rfl]
  rw [zs_iload_n (ls := [some (.ref 58), some (.int x1), some (.int x2), some (.int r1)]) zd_171_10 rfl]
  by_cases c2 : 0 ≤ r1 ∧ r1 < 8192
  · rw [if_pos c2] at H
    rw [zp_iaload (n := 119) (K := zx_pk (zK L) 119) (σ := σ) (q := 63) (m := 8192) (i := r1) (k := r1.toNatClampNeg) (v := (σ 63 r1.toNatClampNeg)) zd_171_11 rfl (by decide) (zJ_in c2 rfl) rfl rfl]
    by_cases c3 : ¬ (σ 63 r1.toNatClampNeg) = 0
    · rw [if_pos c3] at H
      rw [zp_if_ne_t (x := (σ 63 r1.toNatClampNeg)) (t := 44) zd_171_12 rfl c3]
      have H := Option.some.inj H
      subst H
      exact zs_return zd_171_44 (by decide +kernel)
    · rw [if_neg c3] at H
      rw [zp_if_ne_f (x := (σ 63 r1.toNatClampNeg)) (t := 44) zd_171_12 rfl c3]
      rw [zs_aload_n (ls := [some (.ref 58), some (.int x1), some (.int x2), some (.int r1)]) zd_171_15 rfl]
      rw [zs_getR (n := 119) (K := zx_pk (zK L) 119) (ρ := zR) (c := 5) (k := 1) (q := 58) (p := 59) zd_171_16 rfl rfl rfl (by decide) rfl]
      rw [zs_iload_n (ls := [some (.ref 58), some (.int x1), some (.int x2), some (.int r1)]) zd_171_19 rfl]
      obtain ⟨r4, hr4, H⟩ := Option.bind_eq_some_iff.mp H
      rw [zp_callVv (st := [.int x1, .ref 59]) (as := [.ref 59, .int x1]) (rest := []) (e := 0) zd_171_20 rfl (by decide +kernel) (by decide) rfl rfl (Nat.le_of_ble_eq_true rfl) (zx_rcb_ok rfl (show 59 < 119 by decide)) (Nat.le_of_ble_eq_true rfl) rfl (by decide) (zt_Numbers_add_c2 hr4)]
      rw [zs_aload_n (ls := [some (.ref 58), some (.int x1), some (.int x2), some (.int r1)]) zd_171_23 rfl]
      rw [zs_getR (n := 119) (K := zx_pk (zK L) 119) (ρ := zR) (c := 5) (k := 2) (q := 58) (p := 61) zd_171_24 rfl rfl rfl (by decide) rfl]
      rw [zs_iload_n (ls := [some (.ref 58), some (.int x1), some (.int x2), some (.int r1)]) zd_171_27 rfl]
      obtain ⟨r5, hr5, H⟩ := Option.bind_eq_some_iff.mp H
      rw [zp_callVv (st := [.int x2, .ref 61]) (as := [.ref 61, .int x2]) (rest := []) (e := 0) zd_171_28 rfl (by decide +kernel) (by decide) rfl rfl (Nat.le_of_ble_eq_true rfl) (zx_rcb_ok rfl (show 61 < 119 by decide)) (Nat.le_of_ble_eq_true rfl) rfl (by decide) (zt_Numbers_add_c3 hr5)]
      rw [zs_aload_n (ls := [some (.ref 58), some (.int x1), some (.int x2), some (.int r1)]) zd_171_31 rfl]
      rw [zs_getR (n := 119) (K := zx_pk (zK L) 119) (ρ := zR) (c := 5) (k := 3) (q := 58) (p := 63) zd_171_32 rfl rfl rfl (by decide) rfl]
      rw [zs_iload_n (ls := [some (.ref 58), some (.int x1), some (.int x2), some (.int r1)]) zd_171_35 rfl]
      rw [zs_aload_n (ls := [some (.ref 58), some (.int x1), some (.int x2), some (.int r1)]) zd_171_36 rfl]
      rw [zs_getR (n := 119) (K := zx_pk (zK L) 119) (ρ := zR) (c := 5) (k := 1) (q := 58) (p := 59) zd_171_37 rfl rfl rfl (by decide) rfl]
      rw [zp_getI (n := 119) (K := zx_pk (zK L) 119) (σ := r5) (c := 4) (k := 1) (q := 59) (v := (r5 59 1)) zd_171_40 rfl rfl rfl (by decide) rfl]
      by_cases c6 : 0 ≤ r1 ∧ r1 < 8192
      · rw [if_pos c6] at H
        rw [zp_iastore (n := 119) (K := zx_pk (zK L) 119) (q := 63) (m := 8192) (i := r1) (k := r1.toNatClampNeg) (x := (r5 59 1)) (z := (r5 59 1)) zd_171_43 rfl ⟨by decide, by decide⟩ (zJ_in c6 rfl) rfl rfl]
        have H := Option.some.inj H
        subst H
        exact zs_return zd_171_44 (by decide +kernel)
      · rw [if_neg c6] at H
        cases H
  · rw [if_neg c2] at H
    cases H
set_option maxRecDepth 20000 in
theorem zt_Outcomes_gather_57 {a b L N : Nat} {k24 : zS → Int32 → Option (zS)} (hk24 : ∀ {σ : zS} {τ : zT} {v2 : Int32} {r : zS}, k24 σ v2 = some r → zx_go 4 169 24 [some (.ref 58), some (.ref 41), some (.int v2)] [] ((119, a, b), zx_pk (zK L) 119, σ, τ, zR) = some (none, ((119, a, b), zx_pk (zK L) 119, r, τ, zR))) {σ : zS} {τ : zT} {v2 : Int32} {r : zS} (H : zb_Outcomes_gather_57 k24 N σ v2 = some r) : zx_go 4 169 57 [some (.ref 58), some (.ref 41), some (.int v2)] [] ((119, a, b), zx_pk (zK L) 119, σ, τ, zR) = some (none, ((119, a, b), zx_pk (zK L) 119, r, τ, zR)) := by
  unfold zb_Outcomes_gather_57 at H
  rw [zs_iinc (ls := [some (.ref 58), some (.ref 41), some (.int v2)]) (x := v2) (z := (v2 + 1)) (ls' := [some (.ref 58), some (.ref 41), some (.int (v2 + 1))]) zd_169_57 rfl rfl rfl]
  rw [zs_goto (t := 24) zd_169_60 rfl]
  exact hk24 H
set_option maxRecDepth 20000 in
theorem zt_Outcomes_gather_24 {a b L N : Nat} : ∀ {n : Nat} {σ : zS} {τ : zT} {v2 : Int32} {r : zS}, zb_Outcomes_gather_24 N n σ v2 = some r → zx_go 4 169 24 [some (.ref 58), some (.ref 41), some (.int v2)] [] ((119, a, b), zx_pk (zK L) 119, σ, τ, zR) = some (none, ((119, a, b), zx_pk (zK L) 119, r, τ, zR)) := by
  intro n
  induction n with
  | zero =>
    intro _ _ _ _ H
    cases H
  | succ n ih =>
    intro σ τ v2 r H
    rw [zb_Outcomes_gather_24] at H
    rw [zs_iload_n (ls := [some (.ref 58), some (.ref 41), some (.int v2)]) zd_169_24 rfl]
    rw [zs_aload_n (ls := [some (.ref 58), some (.ref 41), some (.int v2)]) zd_169_25 rfl]
    rw [zp_getI (n := 119) (K := zx_pk (zK L) 119) (σ := σ) (c := 8) (k := 6) (q := 41) (v := (σ 41 6)) zd_169_26 rfl rfl rfl (by decide) rfl]
    by_cases c4 : (σ 41 6) ≤ v2
    · rw [if_pos c4] at H
      rw [zp_icmp_ge_t (x := v2) (y := (σ 41 6)) (t := 63) zd_169_29 rfl c4]
      have H := Option.some.inj H
      subst H
      exact zs_return zd_169_63 (by decide +kernel)
    · rw [if_neg c4] at H
      rw [zp_icmp_ge_f (x := v2) (y := (σ 41 6)) (t := 63) zd_169_29 rfl c4]
      rw [zs_aload_n (ls := [some (.ref 58), some (.ref 41), some (.int v2)]) zd_169_32 rfl]
      rw [zs_iload_n (ls := [some (.ref 58), some (.ref 41), some (.int v2)]) zd_169_33 rfl]
      obtain ⟨r5, hr5, H⟩ := Option.bind_eq_some_iff.mp H
      rw [zp_callVi (x := r5) (st := [.int v2, .ref 41]) (as := [.ref 41, .int v2]) (rest := []) (e := 1) zd_169_34 rfl (by decide +kernel) (by decide) rfl rfl (Nat.le_of_ble_eq_true rfl) (zx_rcb_ok rfl (show 41 < 119 by decide)) (Nat.le_of_ble_eq_true rfl) rfl (by decide) (zt_Space_isLast hr5)]
      by_cases c6 : r5 = 0
      · rw [if_pos c6] at H
        rw [zp_if_eq_t (x := r5) (t := 57) zd_169_37 rfl c6]
        exact zt_Outcomes_gather_57 (hk24 := ih) H
      · rw [if_neg c6] at H
        rw [zp_if_eq_f (x := r5) (t := 57) zd_169_37 rfl c6]
        rw [zs_aload_n (ls := [some (.ref 58), some (.ref 41), some (.int v2)]) zd_169_40 rfl]
        rw [zs_iload_n (ls := [some (.ref 58), some (.ref 41), some (.int v2)]) zd_169_41 rfl]
        obtain ⟨r7, hr7, H⟩ := Option.bind_eq_some_iff.mp H
        rw [zp_callVv (st := [.int v2, .ref 41]) (as := [.ref 41, .int v2]) (rest := []) (e := 3) zd_169_42 rfl (by decide +kernel) (by decide) rfl rfl (Nat.le_of_ble_eq_true rfl) (zx_rcb_ok rfl (show 41 < 119 by decide)) (Nat.le_of_ble_eq_true rfl) rfl (by decide) (zt_Space_load hr7)]
        rw [zs_aload_n (ls := [some (.ref 58), some (.ref 41), some (.int v2)]) zd_169_45 rfl]
        rw [zs_aload_n (ls := [some (.ref 58), some (.ref 41), some (.int v2)]) zd_169_46 rfl]
        rw [zs_getR (n := 119) (K := zx_pk (zK L) 119) (ρ := zR) (c := 5) (k := 0) (q := 58) (p := 35) zd_169_47 rfl rfl rfl (by decide) rfl]
        obtain ⟨r8, hr8, H⟩ := Option.bind_eq_some_iff.mp H
        rw [zp_callVi (x := r8) (st := [.ref 35, .ref 58]) (as := [.ref 35]) (rest := [.ref 58]) (e := 3) zd_169_50 rfl (by decide +kernel) (by decide) rfl rfl (Nat.le_of_ble_eq_true rfl) (zx_rcb_ok rfl (show 35 < 119 by decide)) (Nat.le_of_ble_eq_true rfl) rfl (by decide) (zt_Machine_outcome hr8)]
        rw [zs_iload_n (ls := [some (.ref 58), some (.ref 41), some (.int v2)]) zd_169_53 rfl]
        obtain ⟨r9, hr9, H⟩ := Option.bind_eq_some_iff.mp H
        rw [zp_callVv (st := [.int v2, .int r8, .ref 58]) (as := [.ref 58, .int r8, .int v2]) (rest := []) (e := 2) zd_169_54 rfl (by decide +kernel) (by decide) rfl rfl (Nat.le_of_ble_eq_true rfl) (zx_rcb_ok rfl (show 58 < 119 by decide)) (Nat.le_of_ble_eq_true rfl) rfl (by decide) (zt_Outcomes_note hr9)]
        exact zt_Outcomes_gather_57 (hk24 := ih) H
set_option maxRecDepth 20000 in
theorem zt_Outcomes_gather {a b L N : Nat} {σ : zS} {τ : zT} {r : zS} (H : zf_Outcomes_gather N σ = some r) : zx_go 4 169 0 [some (.ref 58), some (.ref 41), none] [] ((119, a, b), zx_pk (zK L) 119, σ, τ, zR) = some (none, ((119, a, b), zx_pk (zK L) 119, r, τ, zR)) := by
  unfold zf_Outcomes_gather at H
  rw [zs_aload_n (ls := [some (.ref 58), some (.ref 41), none]) zd_169_0 rfl]
  rw [zs_getR (n := 119) (K := zx_pk (zK L) 119) (ρ := zR) (c := 5) (k := 1) (q := 58) (p := 59) zd_169_1 rfl rfl rfl (by decide) rfl]
  obtain ⟨r1, hr1, H⟩ := Option.bind_eq_some_iff.mp H
  rw [zp_callVv (st := [.ref 59]) (as := [.ref 59]) (rest := []) (e := 0) zd_169_4 rfl (by decide +kernel) (by decide) rfl rfl (Nat.le_of_ble_eq_true rfl) (zx_rcb_ok rfl (show 59 < 119 by decide)) (Nat.le_of_ble_eq_true rfl) rfl (by decide) (zt_Numbers_clear_c5 hr1)]
  rw [zs_aload_n (ls := [some (.ref 58), some (.ref 41), none]) zd_169_7 rfl]
  rw [zs_getR (n := 119) (K := zx_pk (zK L) 119) (ρ := zR) (c := 5) (k := 2) (q := 58) (p := 61) zd_169_8 rfl rfl rfl (by decide) rfl]
  obtain ⟨r2, hr2, H⟩ := Option.bind_eq_some_iff.mp H
  rw [zp_callVv (st := [.ref 61]) (as := [.ref 61]) (rest := []) (e := 0) zd_169_11 rfl (by decide +kernel) (by decide) rfl rfl (Nat.le_of_ble_eq_true rfl) (zx_rcb_ok rfl (show 61 < 119 by decide)) (Nat.le_of_ble_eq_true rfl) rfl (by decide) (zt_Numbers_clear_c6 hr2)]
  rw [zs_aload_n (ls := [some (.ref 58), some (.ref 41), none]) zd_169_14 rfl]
  rw [zs_getR (n := 119) (K := zx_pk (zK L) 119) (ρ := zR) (c := 5) (k := 3) (q := 58) (p := 63) zd_169_15 rfl rfl rfl (by decide) rfl]
  rw [zs_iconst (z := 0) zd_169_18 (by decide)]
  obtain ⟨r3, hr3, H⟩ := Option.bind_eq_some_iff.mp H
  rw [zp_callSv (st := [.int 0, .ref 63]) (as := [.ref 63, .int 0]) (rest := []) (e := 0) zd_169_19 rfl (by decide +kernel) (by decide) rfl rfl (Nat.le_of_ble_eq_true rfl) rfl (Nat.le_of_ble_eq_true rfl) rfl (by decide) (zt_Arrays_fill_c6 hr3)]
  rw [zs_iconst (z := 0) zd_169_22 (by decide)]
  rw [zs_istore_n (x := 0) (ls' := [some (.ref 58), some (.ref 41), some (.int 0)]) zd_169_23 (Nat.le_of_ble_eq_true rfl) rfl]
  exact zt_Outcomes_gather_24  H
set_option maxRecDepth 20000 in
theorem zt_Program_clash_81 {a b L : Nat} {σ : zS} {τ : zT} {v2 : Int32} {v3 : Int32} {v4 : Int32} {s0 : Int32} {o1 : Option Value} {o5 : Option Value} {r : Int32} (H : zb_Program_clash_81 σ v2 v3 v4 s0 = some r) : zx_go 0 167 81 [some (.ref 4), o1, some (.int v2), some (.int v3), some (.int v4), o5] [.int s0] ((119, a, b), zx_pk (zK L) 119, σ, τ, zR) = some (some (.int r), ((119, a, b), zx_pk (zK L) 119, σ, τ, zR)) := by
  unfold zb_Program_clash_81 at H
  rw [zs_istore (x := s0) (ls' := [some (.ref 4), o1, some (.int v2), some (.int v3), some (.int v4), some (.int s0)]) zd_167_81 (Nat.le_of_ble_eq_true rfl) rfl]
  rw [zs_iload (ls := [some (.ref 4), o1, some (.int v2), some (.int v3), some (.int v4), some (.int s0)]) zd_167_83 rfl]
  by_cases c10 : v4 = 0
  · rw [if_pos c10] at H
    rw [zp_if_eq_t (x := v4) (t := 118) zd_167_85 rfl c10]
    rw [zs_iconst (z := 0) zd_167_118 (by decide)]
    have H := Option.some.inj H
    subst H
    exact zs_ireturn zd_167_119 (by decide +kernel)
  · rw [if_neg c10] at H
    rw [zp_if_eq_f (x := v4) (t := 118) zd_167_85 rfl c10]
    rw [zs_iload (ls := [some (.ref 4), o1, some (.int v2), some (.int v3), some (.int v4), some (.int s0)]) zd_167_88 rfl]
    by_cases c11 : s0 = 0
    · rw [if_pos c11] at H
      rw [zp_if_eq_t (x := s0) (t := 118) zd_167_90 rfl c11]
      rw [zs_iconst (z := 0) zd_167_118 (by decide)]
      have H := Option.some.inj H
      subst H
      exact zs_ireturn zd_167_119 (by decide +kernel)
    · rw [if_neg c11] at H
      rw [zp_if_eq_f (x := s0) (t := 118) zd_167_90 rfl c11]
      rw [zs_iload_n (ls := [some (.ref 4), o1, some (.int v2), some (.int v3), some (.int v4), some (.int s0)]) zd_167_93 rfl]
      rw [zs_aload_n (ls := [some (.ref 4), o1, some (.int v2), some (.int v3), some (.int v4), some (.int s0)]) zd_167_94 rfl]
      rw [zs_getR (n := 119) (K := zx_pk (zK L) 119) (ρ := zR) (c := 6) (k := 10) (q := 4) (p := 8) zd_167_95 rfl rfl rfl (by decide) rfl]
      rw [zs_iload_n (ls := [some (.ref 4), o1, some (.int v2), some (.int v3), some (.int v4), some (.int s0)]) zd_167_98 rfl]
      by_cases c12 : 0 ≤ v2 ∧ v2 < 97
      · rw [if_pos c12] at H
        rw [zp_iaload (n := 119) (K := zx_pk (zK L) 119) (σ := σ) (q := 8) (m := 97) (i := v2) (k := v2.toNatClampNeg) (v := (σ 8 v2.toNatClampNeg)) zd_167_99 rfl (by decide) (zJ_in c12 rfl) rfl rfl]
        by_cases c13 : ¬ v3 = (σ 8 v2.toNatClampNeg)
        · rw [if_pos c13] at H
          rw [zp_icmp_ne_t (x := v3) (y := (σ 8 v2.toNatClampNeg)) (t := 118) zd_167_100 rfl c13]
          rw [zs_iconst (z := 0) zd_167_118 (by decide)]
          have H := Option.some.inj H
          subst H
          exact zs_ireturn zd_167_119 (by decide +kernel)
        · rw [if_neg c13] at H
          rw [zp_icmp_ne_f (x := v3) (y := (σ 8 v2.toNatClampNeg)) (t := 118) zd_167_100 rfl c13]
          rw [zs_aload_n (ls := [some (.ref 4), o1, some (.int v2), some (.int v3), some (.int v4), some (.int s0)]) zd_167_103 rfl]
          rw [zp_getI (n := 119) (K := zx_pk (zK L) 119) (σ := σ) (c := 6) (k := 6) (q := 4) (v := (σ 4 6)) zd_167_104 rfl rfl rfl (by decide) rfl]
          rw [zs_iload_n (ls := [some (.ref 4), o1, some (.int v2), some (.int v3), some (.int v4), some (.int s0)]) zd_167_107 rfl]
          rw [zp_iushr (x := (σ 4 6)) (y := v3) (z := (zJ_ushr (σ 4 6) v3)) zd_167_108 rfl]
          rw [zs_iconst (z := 1) zd_167_109 (by decide)]
          rw [zp_iand (x := (zJ_ushr (σ 4 6) v3)) (y := 1) (z := ((zJ_ushr (σ 4 6) v3) &&& 1)) zd_167_110 rfl]
          by_cases c14 : ¬ ((zJ_ushr (σ 4 6) v3) &&& 1) = 0
          · rw [if_pos c14] at H
            rw [zp_if_ne_t (x := ((zJ_ushr (σ 4 6) v3) &&& 1)) (t := 118) zd_167_111 rfl c14]
            rw [zs_iconst (z := 0) zd_167_118 (by decide)]
            have H := Option.some.inj H
            subst H
            exact zs_ireturn zd_167_119 (by decide +kernel)
          · rw [if_neg c14] at H
            rw [zp_if_ne_f (x := ((zJ_ushr (σ 4 6) v3) &&& 1)) (t := 118) zd_167_111 rfl c14]
            rw [zs_iconst (z := 1) zd_167_114 (by decide)]
            rw [zs_goto (t := 119) zd_167_115 rfl]
            have H := Option.some.inj H
            subst H
            exact zs_ireturn zd_167_119 (by decide +kernel)
      · rw [if_neg c12] at H
        cases H
set_option maxRecDepth 20000 in
theorem zt_Program_clash_76 {a b L : Nat} {σ : zS} {τ : zT} {v2 : Int32} {v3 : Int32} {v4 : Int32} {o1 : Option Value} {o5 : Option Value} {r : Int32} (H : zb_Program_clash_76 σ v2 v3 v4 = some r) : zx_go 0 167 76 [some (.ref 4), o1, some (.int v2), some (.int v3), some (.int v4), o5] [] ((119, a, b), zx_pk (zK L) 119, σ, τ, zR) = some (some (.int r), ((119, a, b), zx_pk (zK L) 119, σ, τ, zR)) := by
  unfold zb_Program_clash_76 at H
  rw [zs_iconst (z := 1) zd_167_76 (by decide)]
  rw [zs_goto (t := 81) zd_167_77 rfl]
  exact zt_Program_clash_81  H
set_option maxRecDepth 20000 in
theorem zt_Program_clash_54 {a b L : Nat} {σ : zS} {τ : zT} {v1 : Int32} {v2 : Int32} {v3 : Int32} {s0 : Int32} {o4 : Option Value} {o5 : Option Value} {r : Int32} (H : zb_Program_clash_54 σ v1 v2 v3 s0 = some r) : zx_go 0 167 54 [some (.ref 4), some (.int v1), some (.int v2), some (.int v3), o4, o5] [.int s0] ((119, a, b), zx_pk (zK L) 119, σ, τ, zR) = some (some (.int r), ((119, a, b), zx_pk (zK L) 119, σ, τ, zR)) := by
  unfold zb_Program_clash_54 at H
  rw [zs_istore (x := s0) (ls' := [some (.ref 4), some (.int v1), some (.int v2), some (.int v3), some (.int s0), o5]) zd_167_54 (Nat.le_of_ble_eq_true rfl) rfl]
  rw [zs_aload_n (ls := [some (.ref 4), some (.int v1), some (.int v2), some (.int v3), some (.int s0), o5]) zd_167_56 rfl]
  rw [zs_getR (n := 119) (K := zx_pk (zK L) 119) (ρ := zR) (c := 6) (k := 9) (q := 4) (p := 7) zd_167_57 rfl rfl rfl (by decide) rfl]
  rw [zs_iload_n (ls := [some (.ref 4), some (.int v1), some (.int v2), some (.int v3), some (.int s0), o5]) zd_167_60 rfl]
  by_cases c8 : 0 ≤ v1 ∧ v1 < 97
  · rw [if_pos c8] at H
    rw [zp_iaload (n := 119) (K := zx_pk (zK L) 119) (σ := σ) (q := 7) (m := 97) (i := v1) (k := v1.toNatClampNeg) (v := (σ 7 v1.toNatClampNeg)) zd_167_61 rfl (by decide) (zJ_in c8 rfl) rfl rfl]
    rw [zs_iconst (z := 1) zd_167_62 (by decide)]
    by_cases c9 : (σ 7 v1.toNatClampNeg) = 1
    · rw [if_pos c9] at H
      rw [zp_icmp_eq_t (x := (σ 7 v1.toNatClampNeg)) (y := 1) (t := 76) zd_167_63 rfl c9]
      exact zt_Program_clash_76  H
    · rw [if_neg c9] at H
      rw [zp_icmp_eq_f (x := (σ 7 v1.toNatClampNeg)) (y := 1) (t := 76) zd_167_63 rfl c9]
      rw [zs_aload_n (ls := [some (.ref 4), some (.int v1), some (.int v2), some (.int v3), some (.int s0), o5]) zd_167_66 rfl]
      rw [zs_getR (n := 119) (K := zx_pk (zK L) 119) (ρ := zR) (c := 6) (k := 9) (q := 4) (p := 7) zd_167_67 rfl rfl rfl (by decide) rfl]
      rw [zs_iload_n (ls := [some (.ref 4), some (.int v1), some (.int v2), some (.int v3), some (.int s0), o5]) zd_167_70 rfl]
      by_cases c15 : 0 ≤ v2 ∧ v2 < 97
      · rw [if_pos c15] at H
        rw [zp_iaload (n := 119) (K := zx_pk (zK L) 119) (σ := σ) (q := 7) (m := 97) (i := v2) (k := v2.toNatClampNeg) (v := (σ 7 v2.toNatClampNeg)) zd_167_71 rfl (by decide) (zJ_in c15 rfl) rfl rfl]
        rw [zs_iconst (z := 1) zd_167_72 (by decide)]
        by_cases c16 : ¬ (σ 7 v2.toNatClampNeg) = 1
        · rw [if_pos c16] at H
          rw [zp_icmp_ne_t (x := (σ 7 v2.toNatClampNeg)) (y := 1) (t := 80) zd_167_73 rfl c16]
          rw [zs_iconst (z := 0) zd_167_80 (by decide)]
          exact zt_Program_clash_81  H
        · rw [if_neg c16] at H
          rw [zp_icmp_ne_f (x := (σ 7 v2.toNatClampNeg)) (y := 1) (t := 80) zd_167_73 rfl c16]
          exact zt_Program_clash_76  H
      · rw [if_neg c15] at H
        cases H
  · rw [if_neg c8] at H
    cases H
set_option maxRecDepth 20000 in
theorem zt_Program_clash_53 {a b L : Nat} {σ : zS} {τ : zT} {v1 : Int32} {v2 : Int32} {v3 : Int32} {o4 : Option Value} {o5 : Option Value} {r : Int32} (H : zb_Program_clash_53 σ v1 v2 v3 = some r) : zx_go 0 167 53 [some (.ref 4), some (.int v1), some (.int v2), some (.int v3), o4, o5] [] ((119, a, b), zx_pk (zK L) 119, σ, τ, zR) = some (some (.int r), ((119, a, b), zx_pk (zK L) 119, σ, τ, zR)) := by
  unfold zb_Program_clash_53 at H
  rw [zs_iconst (z := 0) zd_167_53 (by decide)]
  exact zt_Program_clash_54  H
set_option maxRecDepth 20000 in
theorem zt_Program_clash {a b L : Nat} {σ : zS} {τ : zT} {x1 : Int32} {x2 : Int32} {r : Int32} (H : zf_Program_clash σ x1 x2 = some r) : zx_go 0 167 0 [some (.ref 4), some (.int x1), some (.int x2), none, none, none] [] ((119, a, b), zx_pk (zK L) 119, σ, τ, zR) = some (some (.int r), ((119, a, b), zx_pk (zK L) 119, σ, τ, zR)) := by
  unfold zf_Program_clash at H
  rw [zs_iload_n (ls := [some (.ref 4), some (.int x1), some (.int x2), none, none, none]) zd_167_0 rfl]
  by_cases c1 : x1 < 0
  · rw [if_pos c1] at H
    rw [zp_if_lt_t (x := x1) (t := 20) zd_167_1 rfl c1]
    rw [zs_iconst (z := 0) zd_167_20 (by decide)]
    have H := Option.some.inj H
    subst H
    exact zs_ireturn zd_167_21 (by decide +kernel)
  · rw [if_neg c1] at H
    rw [zp_if_lt_f (x := x1) (t := 20) zd_167_1 rfl c1]
    rw [zs_iload_n (ls := [some (.ref 4), some (.int x1), some (.int x2), none, none, none]) zd_167_4 rfl]
    rw [zs_bipush (z := 96) zd_167_5 (by decide)]
    by_cases c2 : 96 ≤ x1
    · rw [if_pos c2] at H
      rw [zp_icmp_ge_t (x := x1) (y := 96) (t := 20) zd_167_7 rfl c2]
      rw [zs_iconst (z := 0) zd_167_20 (by decide)]
      have H := Option.some.inj H
      subst H
      exact zs_ireturn zd_167_21 (by decide +kernel)
    · rw [if_neg c2] at H
      rw [zp_icmp_ge_f (x := x1) (y := 96) (t := 20) zd_167_7 rfl c2]
      rw [zs_iload_n (ls := [some (.ref 4), some (.int x1), some (.int x2), none, none, none]) zd_167_10 rfl]
      by_cases c3 : x2 < 0
      · rw [if_pos c3] at H
        rw [zp_if_lt_t (x := x2) (t := 20) zd_167_11 rfl c3]
        rw [zs_iconst (z := 0) zd_167_20 (by decide)]
        have H := Option.some.inj H
        subst H
        exact zs_ireturn zd_167_21 (by decide +kernel)
      · rw [if_neg c3] at H
        rw [zp_if_lt_f (x := x2) (t := 20) zd_167_11 rfl c3]
        rw [zs_iload_n (ls := [some (.ref 4), some (.int x1), some (.int x2), none, none, none]) zd_167_14 rfl]
        rw [zs_bipush (z := 96) zd_167_15 (by decide)]
        by_cases c4 : x2 < 96
        · rw [if_pos c4] at H
          rw [zp_icmp_lt_t (x := x2) (y := 96) (t := 22) zd_167_17 rfl c4]
          rw [zs_aload_n (ls := [some (.ref 4), some (.int x1), some (.int x2), none, none, none]) zd_167_22 rfl]
          rw [zs_getR (n := 119) (K := zx_pk (zK L) 119) (ρ := zR) (c := 6) (k := 10) (q := 4) (p := 8) zd_167_23 rfl rfl rfl (by decide) rfl]
          rw [zs_iload_n (ls := [some (.ref 4), some (.int x1), some (.int x2), none, none, none]) zd_167_26 rfl]
          by_cases c5 : 0 ≤ x1 ∧ x1 < 97
          · rw [if_pos c5] at H
            rw [zp_iaload (n := 119) (K := zx_pk (zK L) 119) (σ := σ) (q := 8) (m := 97) (i := x1) (k := x1.toNatClampNeg) (v := (σ 8 x1.toNatClampNeg)) zd_167_27 rfl (by decide) (zJ_in c5 rfl) rfl rfl]
            rw [zs_istore_n (x := (σ 8 x1.toNatClampNeg)) (ls' := [some (.ref 4), some (.int x1), some (.int x2), some (.int (σ 8 x1.toNatClampNeg)), none, none]) zd_167_28 (Nat.le_of_ble_eq_true rfl) rfl]
            rw [zs_aload_n (ls := [some (.ref 4), some (.int x1), some (.int x2), some (.int (σ 8 x1.toNatClampNeg)), none, none]) zd_167_29 rfl]
            rw [zs_getR (n := 119) (K := zx_pk (zK L) 119) (ρ := zR) (c := 6) (k := 9) (q := 4) (p := 7) zd_167_30 rfl rfl rfl (by decide) rfl]
            rw [zs_iload_n (ls := [some (.ref 4), some (.int x1), some (.int x2), some (.int (σ 8 x1.toNatClampNeg)), none, none]) zd_167_33 rfl]
            by_cases c6 : 0 ≤ x1 ∧ x1 < 97
            · rw [if_pos c6] at H
              rw [zp_iaload (n := 119) (K := zx_pk (zK L) 119) (σ := σ) (q := 7) (m := 97) (i := x1) (k := x1.toNatClampNeg) (v := (σ 7 x1.toNatClampNeg)) zd_167_34 rfl (by decide) (zJ_in c6 rfl) rfl rfl]
              rw [zs_iconst (z := 1) zd_167_35 (by decide)]
              by_cases c7 : 1 < (σ 7 x1.toNatClampNeg)
              · rw [if_pos c7] at H
                rw [zp_icmp_gt_t (x := (σ 7 x1.toNatClampNeg)) (y := 1) (t := 53) zd_167_36 rfl c7]
                exact zt_Program_clash_53  H
              · rw [if_neg c7] at H
                rw [zp_icmp_gt_f (x := (σ 7 x1.toNatClampNeg)) (y := 1) (t := 53) zd_167_36 rfl c7]
                rw [zs_aload_n (ls := [some (.ref 4), some (.int x1), some (.int x2), some (.int (σ 8 x1.toNatClampNeg)), none, none]) zd_167_39 rfl]
                rw [zs_getR (n := 119) (K := zx_pk (zK L) 119) (ρ := zR) (c := 6) (k := 9) (q := 4) (p := 7) zd_167_40 rfl rfl rfl (by decide) rfl]
                rw [zs_iload_n (ls := [some (.ref 4), some (.int x1), some (.int x2), some (.int (σ 8 x1.toNatClampNeg)), none, none]) zd_167_43 rfl]
                by_cases c17 : 0 ≤ x2 ∧ x2 < 97
                · rw [if_pos c17] at H
                  rw [zp_iaload (n := 119) (K := zx_pk (zK L) 119) (σ := σ) (q := 7) (m := 97) (i := x2) (k := x2.toNatClampNeg) (v := (σ 7 x2.toNatClampNeg)) zd_167_44 rfl (by decide) (zJ_in c17 rfl) rfl rfl]
                  rw [zs_iconst (z := 1) zd_167_45 (by decide)]
                  by_cases c18 : 1 < (σ 7 x2.toNatClampNeg)
                  · rw [if_pos c18] at H
                    rw [zp_icmp_gt_t (x := (σ 7 x2.toNatClampNeg)) (y := 1) (t := 53) zd_167_46 rfl c18]
                    exact zt_Program_clash_53  H
                  · rw [if_neg c18] at H
                    rw [zp_icmp_gt_f (x := (σ 7 x2.toNatClampNeg)) (y := 1) (t := 53) zd_167_46 rfl c18]
                    rw [zs_iconst (z := 1) zd_167_49 (by decide)]
                    rw [zs_goto (t := 54) zd_167_50 rfl]
                    exact zt_Program_clash_54  H
                · rw [if_neg c17] at H
                  cases H
            · rw [if_neg c6] at H
              cases H
          · rw [if_neg c5] at H
            cases H
        · rw [if_neg c4] at H
          rw [zp_icmp_lt_f (x := x2) (y := 96) (t := 22) zd_167_17 rfl c4]
          rw [zs_iconst (z := 0) zd_167_20 (by decide)]
          have H := Option.some.inj H
          subst H
          exact zs_ireturn zd_167_21 (by decide +kernel)
set_option maxRecDepth 20000 in
theorem zt_Findings_noteRace {a b L : Nat} {σ : zS} {τ : zT} {x1 : Int32} {x2 : Int32} {x3 : Int32} {r : zS} (H : zf_Findings_noteRace σ x1 x2 x3 = some r) : zx_go 1 166 0 [some (.ref 46), some (.int x1), some (.int x2), some (.int x3), none] [] ((119, a, b), zx_pk (zK L) 119, σ, τ, zR) = some (none, ((119, a, b), zx_pk (zK L) 119, r, τ, zR)) := by
  unfold zf_Findings_noteRace at H
  rw [zs_aload_n (ls := [some (.ref 46), some (.int x1), some (.int x2), some (.int x3), none]) zd_166_0 rfl]
  rw [zs_getR (n := 119) (K := zx_pk (zK L) 119) (ρ := zR) (c := 0) (k := 0) (q := 46) (p := 4) zd_166_1 rfl rfl rfl (by decide) rfl]
  rw [zs_iload_n (ls := [some (.ref 46), some (.int x1), some (.int x2), some (.int x3), none]) zd_166_4 rfl]
  rw [zs_iload_n (ls := [some (.ref 46), some (.int x1), some (.int x2), some (.int x3), none]) zd_166_5 rfl]
  obtain ⟨r1, hr1, H⟩ := Option.bind_eq_some_iff.mp H
  rw [zp_callVi (x := r1) (st := [.int x2, .int x1, .ref 4]) (as := [.ref 4, .int x1, .int x2]) (rest := []) (e := 0) zd_166_6 rfl (by decide +kernel) (by decide) rfl rfl (Nat.le_of_ble_eq_true rfl) (zx_rcb_ok rfl (show 4 < 119 by decide)) (Nat.le_of_ble_eq_true rfl) rfl (by decide) (zt_Program_clash hr1)]
  by_cases c2 : r1 = 0
  · rw [if_pos c2] at H
    rw [zp_if_eq_t (x := r1) (t := 54) zd_166_9 rfl c2]
    have H := Option.some.inj H
    subst H
    exact zs_return zd_166_54 (by decide +kernel)
  · rw [if_neg c2] at H
    rw [zp_if_eq_f (x := r1) (t := 54) zd_166_9 rfl c2]
    rw [zs_iload_n (ls := [some (.ref 46), some (.int x1), some (.int x2), some (.int x3), none]) zd_166_12 rfl]
    rw [zs_bipush (z := 96) zd_166_13 (by decide)]
    rw [zp_imul (x := x1) (y := 96) (z := (x1 * 96)) zd_166_15 rfl]
    rw [zs_iload_n (ls := [some (.ref 46), some (.int x1), some (.int x2), some (.int x3), none]) zd_166_16 rfl]
    rw [zp_iadd (x := (x1 * 96)) (y := x2) (z := ((x1 * 96) + x2)) zd_166_17 rfl]
    rw [zs_istore (x := ((x1 * 96) + x2)) (ls' := [some (.ref 46), some (.int x1), some (.int x2), some (.int x3), some (.int ((x1 * 96) + x2))]) zd_166_18 (Nat.le_of_ble_eq_true rfl) rfl]
    rw [zs_iload (ls := [some (.ref 46), some (.int x1), some (.int x2), some (.int x3), some (.int ((x1 * 96) + x2))]) zd_166_20 rfl]
    by_cases c3 : ((x1 * 96) + x2) < 0
    · rw [if_pos c3] at H
      rw [zp_if_lt_t (x := ((x1 * 96) + x2)) (t := 54) zd_166_22 rfl c3]
      have H := Option.some.inj H
      subst H
      exact zs_return zd_166_54 (by decide +kernel)
    · rw [if_neg c3] at H
      rw [zp_if_lt_f (x := ((x1 * 96) + x2)) (t := 54) zd_166_22 rfl c3]
      rw [zs_iload (ls := [some (.ref 46), some (.int x1), some (.int x2), some (.int x3), some (.int ((x1 * 96) + x2))]) zd_166_25 rfl]
      rw [zs_aload_n (ls := [some (.ref 46), some (.int x1), some (.int x2), some (.int x3), some (.int ((x1 * 96) + x2))]) zd_166_27 rfl]
      rw [zs_getR (n := 119) (K := zx_pk (zK L) 119) (ρ := zR) (c := 0) (k := 8) (q := 46) (p := 57) zd_166_28 rfl rfl rfl (by decide) rfl]
      rw [zs_arraylength (n := 119) (K := zx_pk (zK L) 119) (q := 57) (m := 9216) (z := 9216) zd_166_31 rfl (by decide) (by decide)]
      by_cases c4 : 9216 ≤ ((x1 * 96) + x2)
      · rw [if_pos c4] at H
        rw [zp_icmp_ge_t (x := ((x1 * 96) + x2)) (y := 9216) (t := 54) zd_166_32 rfl c4]
        have H := Option.some.inj H
        subst H
        exact zs_return zd_166_54 (by decide +kernel)
      · rw [if_neg c4] at H
        rw [zp_icmp_ge_f (x := ((x1 * 96) + x2)) (y := 9216) (t := 54) zd_166_32 rfl c4]
        rw [zs_aload_n (ls := [some (.ref 46), some (.int x1), some (.int x2), some (.int x3), some (.int ((x1 * 96) + x2))]) zd_166_35 rfl]
        rw [zs_getR (n := 119) (K := zx_pk (zK L) 119) (ρ := zR) (c := 0) (k := 8) (q := 46) (p := 57) zd_166_36 rfl rfl rfl (by decide) rfl]
        rw [zs_iload (ls := [some (.ref 46), some (.int x1), some (.int x2), some (.int x3), some (.int ((x1 * 96) + x2))]) zd_166_39 rfl]
        by_cases c5 : 0 ≤ ((x1 * 96) + x2) ∧ ((x1 * 96) + x2) < 9216
        · rw [if_pos c5] at H
          rw [zp_iaload (n := 119) (K := zx_pk (zK L) 119) (σ := σ) (q := 57) (m := 9216) (i := ((x1 * 96) + x2)) (k := ((x1 * 96) + x2).toNatClampNeg) (v := (σ 57 ((x1 * 96) + x2).toNatClampNeg)) zd_166_41 rfl (by decide) (zJ_in c5 rfl) rfl rfl]
          rw [zs_iconst (z := (-1)) zd_166_42 (by decide)]
          by_cases c6 : ¬ (σ 57 ((x1 * 96) + x2).toNatClampNeg) = (-1)
          · rw [if_pos c6] at H
            rw [zp_icmp_ne_t (x := (σ 57 ((x1 * 96) + x2).toNatClampNeg)) (y := (-1)) (t := 54) zd_166_43 rfl c6]
            have H := Option.some.inj H
            subst H
            exact zs_return zd_166_54 (by decide +kernel)
          · rw [if_neg c6] at H
            rw [zp_icmp_ne_f (x := (σ 57 ((x1 * 96) + x2).toNatClampNeg)) (y := (-1)) (t := 54) zd_166_43 rfl c6]
            rw [zs_aload_n (ls := [some (.ref 46), some (.int x1), some (.int x2), some (.int x3), some (.int ((x1 * 96) + x2))]) zd_166_46 rfl]
            rw [zs_getR (n := 119) (K := zx_pk (zK L) 119) (ρ := zR) (c := 0) (k := 8) (q := 46) (p := 57) zd_166_47 rfl rfl rfl (by decide) rfl]
            rw [zs_iload (ls := [some (.ref 46), some (.int x1), some (.int x2), some (.int x3), some (.int ((x1 * 96) + x2))]) zd_166_50 rfl]
            rw [zs_iload_n (ls := [some (.ref 46), some (.int x1), some (.int x2), some (.int x3), some (.int ((x1 * 96) + x2))]) zd_166_52 rfl]
            by_cases c7 : 0 ≤ ((x1 * 96) + x2) ∧ ((x1 * 96) + x2) < 9216
            · rw [if_pos c7] at H
              rw [zp_iastore (n := 119) (K := zx_pk (zK L) 119) (q := 57) (m := 9216) (i := ((x1 * 96) + x2)) (k := ((x1 * 96) + x2).toNatClampNeg) (x := x3) (z := x3) zd_166_53 rfl ⟨by decide, by decide⟩ (zJ_in c7 rfl) rfl rfl]
              have H := Option.some.inj H
              subst H
              exact zs_return zd_166_54 (by decide +kernel)
            · rw [if_neg c7] at H
              cases H
        · rw [if_neg c5] at H
          cases H
set_option maxRecDepth 20000 in
theorem zt_Findings_noteRaces_83 {a b L N : Nat} {k17 : zS → Int32 → Int32 → Int32 → Option (zS)} (hk17 : ∀ {σ : zS} {τ : zT} {v1 : Int32} {v2 : Int32} {v3 : Int32} {r : zS}, k17 σ v1 v2 v3 = some r → zx_go 2 165 17 [some (.ref 46), some (.int v1), some (.int v2), some (.int v3)] [] ((119, a, b), zx_pk (zK L) 119, σ, τ, zR) = some (none, ((119, a, b), zx_pk (zK L) 119, r, τ, zR))) {σ : zS} {τ : zT} {v1 : Int32} {v2 : Int32} {v3 : Int32} {r : zS} (H : zb_Findings_noteRaces_83 k17 N σ v1 v2 v3 = some r) : zx_go 2 165 83 [some (.ref 46), some (.int v1), some (.int v2), some (.int v3)] [] ((119, a, b), zx_pk (zK L) 119, σ, τ, zR) = some (none, ((119, a, b), zx_pk (zK L) 119, r, τ, zR)) := by
  unfold zb_Findings_noteRaces_83 at H
  rw [zs_iinc (ls := [some (.ref 46), some (.int v1), some (.int v2), some (.int v3)]) (x := v3) (z := (v3 + 1)) (ls' := [some (.ref 46), some (.int v1), some (.int v2), some (.int (v3 + 1))]) zd_165_83 rfl rfl rfl]
  rw [zs_goto (t := 17) zd_165_86 rfl]
  exact hk17 H
set_option maxRecDepth 20000 in
theorem zt_Findings_noteRaces_17 {a b L N : Nat} {k2 : zS → Int32 → Int32 → Option (zS)} (hk2 : ∀ {σ : zS} {τ : zT} {v1 : Int32} {v2 : Int32} {o3 : Option Value} {r : zS}, k2 σ v1 v2 = some r → zx_go 2 165 2 [some (.ref 46), some (.int v1), some (.int v2), o3] [] ((119, a, b), zx_pk (zK L) 119, σ, τ, zR) = some (none, ((119, a, b), zx_pk (zK L) 119, r, τ, zR))) : ∀ {n : Nat} {σ : zS} {τ : zT} {v1 : Int32} {v2 : Int32} {v3 : Int32} {r : zS}, zb_Findings_noteRaces_17 k2 N n σ v1 v2 v3 = some r → zx_go 2 165 17 [some (.ref 46), some (.int v1), some (.int v2), some (.int v3)] [] ((119, a, b), zx_pk (zK L) 119, σ, τ, zR) = some (none, ((119, a, b), zx_pk (zK L) 119, r, τ, zR)) := by
  intro n
  induction n with
  | zero =>
    intro _ _ _ _ _ _ H
    cases H
  | succ n ih =>
    intro σ τ v1 v2 v3 r H
    rw [zb_Findings_noteRaces_17] at H
    rw [zs_iload_n (ls := [some (.ref 46), some (.int v1), some (.int v2), some (.int v3)]) zd_165_17 rfl]
    rw [zs_aload_n (ls := [some (.ref 46), some (.int v1), some (.int v2), some (.int v3)]) zd_165_18 rfl]
    rw [zs_getR (n := 119) (K := zx_pk (zK L) 119) (ρ := zR) (c := 0) (k := 0) (q := 46) (p := 4) zd_165_19 rfl rfl rfl (by decide) rfl]
    rw [zp_getI (n := 119) (K := zx_pk (zK L) 119) (σ := σ) (c := 6) (k := 2) (q := 4) (v := (σ 4 2)) zd_165_22 rfl rfl rfl (by decide) rfl]
    by_cases c2 : (σ 4 2) ≤ v3
    · rw [if_pos c2] at H
      rw [zp_icmp_ge_t (x := v3) (y := (σ 4 2)) (t := 89) zd_165_25 rfl c2]
      rw [zs_iinc (ls := [some (.ref 46), some (.int v1), some (.int v2), some (.int v3)]) (x := v2) (z := (v2 + 1)) (ls' := [some (.ref 46), some (.int v1), some (.int (v2 + 1)), some (.int v3)]) zd_165_89 rfl rfl rfl]
      rw [zs_goto (t := 2) zd_165_92 rfl]
      exact hk2 H
    · rw [if_neg c2] at H
      rw [zp_icmp_ge_f (x := v3) (y := (σ 4 2)) (t := 89) zd_165_25 rfl c2]
      rw [zs_aload_n (ls := [some (.ref 46), some (.int v1), some (.int v2), some (.int v3)]) zd_165_28 rfl]
      rw [zs_getR (n := 119) (K := zx_pk (zK L) 119) (ρ := zR) (c := 0) (k := 1) (q := 46) (p := 35) zd_165_29 rfl rfl rfl (by decide) rfl]
      rw [zs_iload_n (ls := [some (.ref 46), some (.int v1), some (.int v2), some (.int v3)]) zd_165_32 rfl]
      obtain ⟨r3, hr3, H⟩ := Option.bind_eq_some_iff.mp H
      rw [zp_callVi (x := r3) (st := [.int v2, .ref 35]) (as := [.ref 35, .int v2]) (rest := []) (e := 0) zd_165_33 rfl (by decide +kernel) (by decide) rfl rfl (Nat.le_of_ble_eq_true rfl) (zx_rcb_ok rfl (show 35 < 119 by decide)) (Nat.le_of_ble_eq_true rfl) rfl (by decide) (zt_Machine_howOf hr3)]
      rw [zs_iconst (z := 1) zd_165_36 (by decide)]
      by_cases c4 : ¬ r3 = 1
      · rw [if_pos c4] at H
        rw [zp_icmp_ne_t (x := r3) (y := 1) (t := 83) zd_165_37 rfl c4]
        exact zt_Findings_noteRaces_83 (hk17 := ih) H
      · rw [if_neg c4] at H
        rw [zp_icmp_ne_f (x := r3) (y := 1) (t := 83) zd_165_37 rfl c4]
        rw [zs_aload_n (ls := [some (.ref 46), some (.int v1), some (.int v2), some (.int v3)]) zd_165_40 rfl]
        rw [zs_getR (n := 119) (K := zx_pk (zK L) 119) (ρ := zR) (c := 0) (k := 1) (q := 46) (p := 35) zd_165_41 rfl rfl rfl (by decide) rfl]
        rw [zs_iload_n (ls := [some (.ref 46), some (.int v1), some (.int v2), some (.int v3)]) zd_165_44 rfl]
        obtain ⟨r5, hr5, H⟩ := Option.bind_eq_some_iff.mp H
        rw [zp_callVi (x := r5) (st := [.int v3, .ref 35]) (as := [.ref 35, .int v3]) (rest := []) (e := 0) zd_165_45 rfl (by decide +kernel) (by decide) rfl rfl (Nat.le_of_ble_eq_true rfl) (zx_rcb_ok rfl (show 35 < 119 by decide)) (Nat.le_of_ble_eq_true rfl) rfl (by decide) (zt_Machine_howOf hr5)]
        rw [zs_iconst (z := 1) zd_165_48 (by decide)]
        by_cases c6 : ¬ r5 = 1
        · rw [if_pos c6] at H
          rw [zp_icmp_ne_t (x := r5) (y := 1) (t := 83) zd_165_49 rfl c6]
          exact zt_Findings_noteRaces_83 (hk17 := ih) H
        · rw [if_neg c6] at H
          rw [zp_icmp_ne_f (x := r5) (y := 1) (t := 83) zd_165_49 rfl c6]
          rw [zs_aload_n (ls := [some (.ref 46), some (.int v1), some (.int v2), some (.int v3)]) zd_165_52 rfl]
          rw [zs_iload_n (ls := [some (.ref 46), some (.int v1), some (.int v2), some (.int v3)]) zd_165_53 rfl]
          rw [zs_bipush (z := 24) zd_165_54 (by decide)]
          rw [zp_imul (x := v2) (y := 24) (z := (v2 * 24)) zd_165_56 rfl]
          rw [zs_aload_n (ls := [some (.ref 46), some (.int v1), some (.int v2), some (.int v3)]) zd_165_57 rfl]
          rw [zs_getR (n := 119) (K := zx_pk (zK L) 119) (ρ := zR) (c := 0) (k := 1) (q := 46) (p := 35) zd_165_58 rfl rfl rfl (by decide) rfl]
          rw [zs_iload_n (ls := [some (.ref 46), some (.int v1), some (.int v2), some (.int v3)]) zd_165_61 rfl]
          obtain ⟨r7, hr7, H⟩ := Option.bind_eq_some_iff.mp H
          rw [zp_callVi (x := r7) (st := [.int v2, .ref 35, .int (v2 * 24), .ref 46]) (as := [.ref 35, .int v2]) (rest := [.int (v2 * 24), .ref 46]) (e := 1) zd_165_62 rfl (by decide +kernel) (by decide) rfl rfl (Nat.le_of_ble_eq_true rfl) (zx_rcb_ok rfl (show 35 < 119 by decide)) (Nat.le_of_ble_eq_true rfl) rfl (by decide) (zt_Machine_stepOf hr7)]
          rw [zp_iadd (x := (v2 * 24)) (y := r7) (z := ((v2 * 24) + r7)) zd_165_65 rfl]
          rw [zs_iload_n (ls := [some (.ref 46), some (.int v1), some (.int v2), some (.int v3)]) zd_165_66 rfl]
          rw [zs_bipush (z := 24) zd_165_67 (by decide)]
          rw [zp_imul (x := v3) (y := 24) (z := (v3 * 24)) zd_165_69 rfl]
          rw [zs_aload_n (ls := [some (.ref 46), some (.int v1), some (.int v2), some (.int v3)]) zd_165_70 rfl]
          rw [zs_getR (n := 119) (K := zx_pk (zK L) 119) (ρ := zR) (c := 0) (k := 1) (q := 46) (p := 35) zd_165_71 rfl rfl rfl (by decide) rfl]
          rw [zs_iload_n (ls := [some (.ref 46), some (.int v1), some (.int v2), some (.int v3)]) zd_165_74 rfl]
          obtain ⟨r8, hr8, H⟩ := Option.bind_eq_some_iff.mp H
          rw [zp_callVi (x := r8) (st := [.int v3, .ref 35, .int (v3 * 24), .int ((v2 * 24) + r7), .ref 46]) (as := [.ref 35, .int v3]) (rest := [.int (v3 * 24), .int ((v2 * 24) + r7), .ref 46]) (e := 1) zd_165_75 rfl (by decide +kernel) (by decide) rfl rfl (Nat.le_of_ble_eq_true rfl) (zx_rcb_ok rfl (show 35 < 119 by decide)) (Nat.le_of_ble_eq_true rfl) rfl (by decide) (zt_Machine_stepOf hr8)]
          rw [zp_iadd (x := (v3 * 24)) (y := r8) (z := ((v3 * 24) + r8)) zd_165_78 rfl]
          rw [zs_iload_n (ls := [some (.ref 46), some (.int v1), some (.int v2), some (.int v3)]) zd_165_79 rfl]
          obtain ⟨r9, hr9, H⟩ := Option.bind_eq_some_iff.mp H
          rw [zp_callVv (st := [.int v1, .int ((v3 * 24) + r8), .int ((v2 * 24) + r7), .ref 46]) (as := [.ref 46, .int ((v2 * 24) + r7), .int ((v3 * 24) + r8), .int v1]) (rest := []) (e := 1) zd_165_80 rfl (by decide +kernel) (by decide) rfl rfl (Nat.le_of_ble_eq_true rfl) (zx_rcb_ok rfl (show 46 < 119 by decide)) (Nat.le_of_ble_eq_true rfl) rfl (by decide) (zt_Findings_noteRace hr9)]
          exact zt_Findings_noteRaces_83 (hk17 := ih) H
set_option maxRecDepth 20000 in
theorem zt_Findings_noteRaces_2 {a b L N : Nat} : ∀ {n : Nat} {σ : zS} {τ : zT} {v1 : Int32} {v2 : Int32} {o3 : Option Value} {r : zS}, zb_Findings_noteRaces_2 N n σ v1 v2 = some r → zx_go 2 165 2 [some (.ref 46), some (.int v1), some (.int v2), o3] [] ((119, a, b), zx_pk (zK L) 119, σ, τ, zR) = some (none, ((119, a, b), zx_pk (zK L) 119, r, τ, zR)) := by
  intro n
  induction n with
  | zero =>
    intro _ _ _ _ _ _ H
    cases H
  | succ n ih =>
    intro σ τ v1 v2 o3 r H
    rw [zb_Findings_noteRaces_2] at H
    rw [zs_iload_n (ls := [some (.ref 46), some (.int v1), some (.int v2), o3]) zd_165_2 rfl]
    rw [zs_aload_n (ls := [some (.ref 46), some (.int v1), some (.int v2), o3]) zd_165_3 rfl]
    rw [zs_getR (n := 119) (K := zx_pk (zK L) 119) (ρ := zR) (c := 0) (k := 0) (q := 46) (p := 4) zd_165_4 rfl rfl rfl (by decide) rfl]
    rw [zp_getI (n := 119) (K := zx_pk (zK L) 119) (σ := σ) (c := 6) (k := 2) (q := 4) (v := (σ 4 2)) zd_165_7 rfl rfl rfl (by decide) rfl]
    by_cases c1 : (σ 4 2) ≤ v2
    · rw [if_pos c1] at H
      rw [zp_icmp_ge_t (x := v2) (y := (σ 4 2)) (t := 95) zd_165_10 rfl c1]
      have H := Option.some.inj H
      subst H
      exact zs_return zd_165_95 (by decide +kernel)
    · rw [if_neg c1] at H
      rw [zp_icmp_ge_f (x := v2) (y := (σ 4 2)) (t := 95) zd_165_10 rfl c1]
      rw [zs_iload_n (ls := [some (.ref 46), some (.int v1), some (.int v2), o3]) zd_165_13 rfl]
      rw [zs_iconst (z := 1) zd_165_14 (by decide)]
      rw [zp_iadd (x := v2) (y := 1) (z := (v2 + 1)) zd_165_15 rfl]
      rw [zs_istore_n (x := (v2 + 1)) (ls' := [some (.ref 46), some (.int v1), some (.int v2), some (.int (v2 + 1))]) zd_165_16 (Nat.le_of_ble_eq_true rfl) rfl]
      exact zt_Findings_noteRaces_17 (hk2 := ih) H
set_option maxRecDepth 20000 in
theorem zt_Findings_noteRaces {a b L N : Nat} {σ : zS} {τ : zT} {x1 : Int32} {r : zS} (H : zf_Findings_noteRaces N σ x1 = some r) : zx_go 2 165 0 [some (.ref 46), some (.int x1), none, none] [] ((119, a, b), zx_pk (zK L) 119, σ, τ, zR) = some (none, ((119, a, b), zx_pk (zK L) 119, r, τ, zR)) := by
  unfold zf_Findings_noteRaces at H
  rw [zs_iconst (z := 0) zd_165_0 (by decide)]
  rw [zs_istore_n (x := 0) (ls' := [some (.ref 46), some (.int x1), some (.int 0), none]) zd_165_1 (Nat.le_of_ble_eq_true rfl) rfl]
  exact zt_Findings_noteRaces_2  H
set_option maxRecDepth 20000 in
theorem zt_Numbers_add_c4 {a b L : Nat} {σ : zS} {τ : zT} {x1 : Int32} {r : zS} (H : zf_Numbers_add_c4 σ x1 = some r) : zx_go 0 161 0 [some (.ref 49), some (.int x1)] [] ((119, a, b), zx_pk (zK L) 119, σ, τ, zR) = some (none, ((119, a, b), zx_pk (zK L) 119, r, τ, zR)) := by
  unfold zf_Numbers_add_c4 at H
  rw [zs_aload_n (ls := [some (.ref 49), some (.int x1)]) zd_161_0 rfl]
  rw [zp_getI (n := 119) (K := zx_pk (zK L) 119) (σ := σ) (c := 4) (k := 1) (q := 49) (v := (σ 49 1)) zd_161_1 rfl rfl rfl (by decide) rfl]
  by_cases c1 : (σ 49 1) < 0
  · rw [if_pos c1] at H
    rw [zp_if_lt_t (x := (σ 49 1)) (t := 39) zd_161_4 rfl c1]
    have H := Option.some.inj H
    subst H
    exact zs_return zd_161_39 (by decide +kernel)
  · rw [if_neg c1] at H
    rw [zp_if_lt_f (x := (σ 49 1)) (t := 39) zd_161_4 rfl c1]
    rw [zs_aload_n (ls := [some (.ref 49), some (.int x1)]) zd_161_7 rfl]
    rw [zp_getI (n := 119) (K := zx_pk (zK L) 119) (σ := σ) (c := 4) (k := 1) (q := 49) (v := (σ 49 1)) zd_161_8 rfl rfl rfl (by decide) rfl]
    rw [zs_aload_n (ls := [some (.ref 49), some (.int x1)]) zd_161_11 rfl]
    rw [zs_getR (n := 119) (K := zx_pk (zK L) 119) (ρ := zR) (c := 4) (k := 0) (q := 49) (p := 50) zd_161_12 rfl rfl rfl (by decide) rfl]
    rw [zs_arraylength (n := 119) (K := zx_pk (zK L) 119) (q := 50) (m := 4000) (z := 4000) zd_161_15 rfl (by decide) (by decide)]
    by_cases c2 : 4000 ≤ (σ 49 1)
    · rw [if_pos c2] at H
      rw [zp_icmp_ge_t (x := (σ 49 1)) (y := 4000) (t := 39) zd_161_16 rfl c2]
      have H := Option.some.inj H
      subst H
      exact zs_return zd_161_39 (by decide +kernel)
    · rw [if_neg c2] at H
      rw [zp_icmp_ge_f (x := (σ 49 1)) (y := 4000) (t := 39) zd_161_16 rfl c2]
      rw [zs_aload_n (ls := [some (.ref 49), some (.int x1)]) zd_161_19 rfl]
      rw [zs_getR (n := 119) (K := zx_pk (zK L) 119) (ρ := zR) (c := 4) (k := 0) (q := 49) (p := 50) zd_161_20 rfl rfl rfl (by decide) rfl]
      rw [zs_aload_n (ls := [some (.ref 49), some (.int x1)]) zd_161_23 rfl]
      rw [zp_getI (n := 119) (K := zx_pk (zK L) 119) (σ := σ) (c := 4) (k := 1) (q := 49) (v := (σ 49 1)) zd_161_24 rfl rfl rfl (by decide) rfl]
      rw [zs_iload_n (ls := [some (.ref 49), some (.int x1)]) zd_161_27 rfl]
      by_cases c3 : 0 ≤ (σ 49 1) ∧ (σ 49 1) < 4000
      · rw [if_pos c3] at H
        rw [zp_iastore (n := 119) (K := zx_pk (zK L) 119) (q := 50) (m := 4000) (i := (σ 49 1)) (k := (σ 49 1).toNatClampNeg) (x := x1) (z := x1) zd_161_28 rfl ⟨by decide, by decide⟩ (zJ_in c3 rfl) rfl rfl]
        rw [zs_aload_n (ls := [some (.ref 49), some (.int x1)]) zd_161_29 rfl]
        rw [zs_dup (a := .ref 49) zd_161_30 rfl]
        rw [zp_getI (n := 119) (K := zx_pk (zK L) 119) (σ := (zx_up σ 50 (σ 49 1).toNatClampNeg x1)) (c := 4) (k := 1) (q := 49) (v := (σ 49 1)) zd_161_31 rfl rfl rfl (by decide) (show ((zx_up σ 50 (σ 49 1).toNatClampNeg x1) : zS) 49 1 = (σ 49 1) from ((zx_up_ne (by decide)).trans rfl))]
        rw [zs_iconst (z := 1) zd_161_34 (by decide)]
        rw [zp_iadd (x := (σ 49 1)) (y := 1) (z := ((σ 49 1) + 1)) zd_161_35 rfl]
        rw [zs_putI (n := 119) (K := zx_pk (zK L) 119) (c := 4) (k := 1) (q := 49) (x := ((σ 49 1) + 1)) zd_161_36 rfl rfl (by decide +kernel) rfl (by decide)]
        have H := Option.some.inj H
        subst H
        exact zs_return zd_161_39 (by decide +kernel)
      · rw [if_neg c3] at H
        cases H
set_option maxRecDepth 20000 in
theorem zt_Numbers_add_c5 {a b L : Nat} {σ : zS} {τ : zT} {x1 : Int32} {r : zS} (H : zf_Numbers_add_c5 σ x1 = some r) : zx_go 0 161 0 [some (.ref 47), some (.int x1)] [] ((119, a, b), zx_pk (zK L) 119, σ, τ, zR) = some (none, ((119, a, b), zx_pk (zK L) 119, r, τ, zR)) := by
  unfold zf_Numbers_add_c5 at H
  rw [zs_aload_n (ls := [some (.ref 47), some (.int x1)]) zd_161_0 rfl]
  rw [zp_getI (n := 119) (K := zx_pk (zK L) 119) (σ := σ) (c := 4) (k := 1) (q := 47) (v := (σ 47 1)) zd_161_1 rfl rfl rfl (by decide) rfl]
  by_cases c1 : (σ 47 1) < 0
  · rw [if_pos c1] at H
    rw [zp_if_lt_t (x := (σ 47 1)) (t := 39) zd_161_4 rfl c1]
    have H := Option.some.inj H
    subst H
    exact zs_return zd_161_39 (by decide +kernel)
  · rw [if_neg c1] at H
    rw [zp_if_lt_f (x := (σ 47 1)) (t := 39) zd_161_4 rfl c1]
    rw [zs_aload_n (ls := [some (.ref 47), some (.int x1)]) zd_161_7 rfl]
    rw [zp_getI (n := 119) (K := zx_pk (zK L) 119) (σ := σ) (c := 4) (k := 1) (q := 47) (v := (σ 47 1)) zd_161_8 rfl rfl rfl (by decide) rfl]
    rw [zs_aload_n (ls := [some (.ref 47), some (.int x1)]) zd_161_11 rfl]
    rw [zs_getR (n := 119) (K := zx_pk (zK L) 119) (ρ := zR) (c := 4) (k := 0) (q := 47) (p := 48) zd_161_12 rfl rfl rfl (by decide) rfl]
    rw [zs_arraylength (n := 119) (K := zx_pk (zK L) 119) (q := 48) (m := 4000) (z := 4000) zd_161_15 rfl (by decide) (by decide)]
    by_cases c2 : 4000 ≤ (σ 47 1)
    · rw [if_pos c2] at H
      rw [zp_icmp_ge_t (x := (σ 47 1)) (y := 4000) (t := 39) zd_161_16 rfl c2]
      have H := Option.some.inj H
      subst H
      exact zs_return zd_161_39 (by decide +kernel)
    · rw [if_neg c2] at H
      rw [zp_icmp_ge_f (x := (σ 47 1)) (y := 4000) (t := 39) zd_161_16 rfl c2]
      rw [zs_aload_n (ls := [some (.ref 47), some (.int x1)]) zd_161_19 rfl]
      rw [zs_getR (n := 119) (K := zx_pk (zK L) 119) (ρ := zR) (c := 4) (k := 0) (q := 47) (p := 48) zd_161_20 rfl rfl rfl (by decide) rfl]
      rw [zs_aload_n (ls := [some (.ref 47), some (.int x1)]) zd_161_23 rfl]
      rw [zp_getI (n := 119) (K := zx_pk (zK L) 119) (σ := σ) (c := 4) (k := 1) (q := 47) (v := (σ 47 1)) zd_161_24 rfl rfl rfl (by decide) rfl]
      rw [zs_iload_n (ls := [some (.ref 47), some (.int x1)]) zd_161_27 rfl]
      by_cases c3 : 0 ≤ (σ 47 1) ∧ (σ 47 1) < 4000
      · rw [if_pos c3] at H
        rw [zp_iastore (n := 119) (K := zx_pk (zK L) 119) (q := 48) (m := 4000) (i := (σ 47 1)) (k := (σ 47 1).toNatClampNeg) (x := x1) (z := x1) zd_161_28 rfl ⟨by decide, by decide⟩ (zJ_in c3 rfl) rfl rfl]
        rw [zs_aload_n (ls := [some (.ref 47), some (.int x1)]) zd_161_29 rfl]
        rw [zs_dup (a := .ref 47) zd_161_30 rfl]
        rw [zp_getI (n := 119) (K := zx_pk (zK L) 119) (σ := (zx_up σ 48 (σ 47 1).toNatClampNeg x1)) (c := 4) (k := 1) (q := 47) (v := (σ 47 1)) zd_161_31 rfl rfl rfl (by decide) (show ((zx_up σ 48 (σ 47 1).toNatClampNeg x1) : zS) 47 1 = (σ 47 1) from ((zx_up_ne (by decide)).trans rfl))]
        rw [zs_iconst (z := 1) zd_161_34 (by decide)]
        rw [zp_iadd (x := (σ 47 1)) (y := 1) (z := ((σ 47 1) + 1)) zd_161_35 rfl]
        rw [zs_putI (n := 119) (K := zx_pk (zK L) 119) (c := 4) (k := 1) (q := 47) (x := ((σ 47 1) + 1)) zd_161_36 rfl rfl (by decide +kernel) rfl (by decide)]
        have H := Option.some.inj H
        subst H
        exact zs_return zd_161_39 (by decide +kernel)
      · rw [if_neg c3] at H
        cases H
set_option maxRecDepth 20000 in
theorem zt_Numbers_add_c6 {a b L : Nat} {σ : zS} {τ : zT} {x1 : Int32} {r : zS} (H : zf_Numbers_add_c6 σ x1 = some r) : zx_go 0 161 0 [some (.ref 51), some (.int x1)] [] ((119, a, b), zx_pk (zK L) 119, σ, τ, zR) = some (none, ((119, a, b), zx_pk (zK L) 119, r, τ, zR)) := by
  unfold zf_Numbers_add_c6 at H
  rw [zs_aload_n (ls := [some (.ref 51), some (.int x1)]) zd_161_0 rfl]
  rw [zp_getI (n := 119) (K := zx_pk (zK L) 119) (σ := σ) (c := 4) (k := 1) (q := 51) (v := (σ 51 1)) zd_161_1 rfl rfl rfl (by decide) rfl]
  by_cases c1 : (σ 51 1) < 0
  · rw [if_pos c1] at H
    rw [zp_if_lt_t (x := (σ 51 1)) (t := 39) zd_161_4 rfl c1]
    have H := Option.some.inj H
    subst H
    exact zs_return zd_161_39 (by decide +kernel)
  · rw [if_neg c1] at H
    rw [zp_if_lt_f (x := (σ 51 1)) (t := 39) zd_161_4 rfl c1]
    rw [zs_aload_n (ls := [some (.ref 51), some (.int x1)]) zd_161_7 rfl]
    rw [zp_getI (n := 119) (K := zx_pk (zK L) 119) (σ := σ) (c := 4) (k := 1) (q := 51) (v := (σ 51 1)) zd_161_8 rfl rfl rfl (by decide) rfl]
    rw [zs_aload_n (ls := [some (.ref 51), some (.int x1)]) zd_161_11 rfl]
    rw [zs_getR (n := 119) (K := zx_pk (zK L) 119) (ρ := zR) (c := 4) (k := 0) (q := 51) (p := 52) zd_161_12 rfl rfl rfl (by decide) rfl]
    rw [zs_arraylength (n := 119) (K := zx_pk (zK L) 119) (q := 52) (m := 4000) (z := 4000) zd_161_15 rfl (by decide) (by decide)]
    by_cases c2 : 4000 ≤ (σ 51 1)
    · rw [if_pos c2] at H
      rw [zp_icmp_ge_t (x := (σ 51 1)) (y := 4000) (t := 39) zd_161_16 rfl c2]
      have H := Option.some.inj H
      subst H
      exact zs_return zd_161_39 (by decide +kernel)
    · rw [if_neg c2] at H
      rw [zp_icmp_ge_f (x := (σ 51 1)) (y := 4000) (t := 39) zd_161_16 rfl c2]
      rw [zs_aload_n (ls := [some (.ref 51), some (.int x1)]) zd_161_19 rfl]
      rw [zs_getR (n := 119) (K := zx_pk (zK L) 119) (ρ := zR) (c := 4) (k := 0) (q := 51) (p := 52) zd_161_20 rfl rfl rfl (by decide) rfl]
      rw [zs_aload_n (ls := [some (.ref 51), some (.int x1)]) zd_161_23 rfl]
      rw [zp_getI (n := 119) (K := zx_pk (zK L) 119) (σ := σ) (c := 4) (k := 1) (q := 51) (v := (σ 51 1)) zd_161_24 rfl rfl rfl (by decide) rfl]
      rw [zs_iload_n (ls := [some (.ref 51), some (.int x1)]) zd_161_27 rfl]
      by_cases c3 : 0 ≤ (σ 51 1) ∧ (σ 51 1) < 4000
      · rw [if_pos c3] at H
        rw [zp_iastore (n := 119) (K := zx_pk (zK L) 119) (q := 52) (m := 4000) (i := (σ 51 1)) (k := (σ 51 1).toNatClampNeg) (x := x1) (z := x1) zd_161_28 rfl ⟨by decide, by decide⟩ (zJ_in c3 rfl) rfl rfl]
        rw [zs_aload_n (ls := [some (.ref 51), some (.int x1)]) zd_161_29 rfl]
        rw [zs_dup (a := .ref 51) zd_161_30 rfl]
        rw [zp_getI (n := 119) (K := zx_pk (zK L) 119) (σ := (zx_up σ 52 (σ 51 1).toNatClampNeg x1)) (c := 4) (k := 1) (q := 51) (v := (σ 51 1)) zd_161_31 rfl rfl rfl (by decide) (show ((zx_up σ 52 (σ 51 1).toNatClampNeg x1) : zS) 51 1 = (σ 51 1) from ((zx_up_ne (by decide)).trans rfl))]
        rw [zs_iconst (z := 1) zd_161_34 (by decide)]
        rw [zp_iadd (x := (σ 51 1)) (y := 1) (z := ((σ 51 1) + 1)) zd_161_35 rfl]
        rw [zs_putI (n := 119) (K := zx_pk (zK L) 119) (c := 4) (k := 1) (q := 51) (x := ((σ 51 1) + 1)) zd_161_36 rfl rfl (by decide +kernel) rfl (by decide)]
        have H := Option.some.inj H
        subst H
        exact zs_return zd_161_39 (by decide +kernel)
      · rw [if_neg c3] at H
        cases H
set_option maxRecDepth 20000 in
theorem zt_Findings_gather_97 {a b L N : Nat} {k31 : zS → Int32 → Option (zS)} (hk31 : ∀ {σ : zS} {τ : zT} {v2 : Int32} {o3 : Option Value} {r : zS}, k31 σ v2 = some r → zx_go 5 158 31 [some (.ref 46), some (.ref 41), some (.int v2), o3] [] ((119, a, b), zx_pk (zK L) 119, σ, τ, zR) = some (none, ((119, a, b), zx_pk (zK L) 119, r, τ, zR))) {σ : zS} {τ : zT} {v2 : Int32} {o3 : Option Value} {r : zS} (H : zb_Findings_gather_97 k31 N σ v2 = some r) : zx_go 5 158 97 [some (.ref 46), some (.ref 41), some (.int v2), o3] [] ((119, a, b), zx_pk (zK L) 119, σ, τ, zR) = some (none, ((119, a, b), zx_pk (zK L) 119, r, τ, zR)) := by
  unfold zb_Findings_gather_97 at H
  rw [zs_aload_n (ls := [some (.ref 46), some (.ref 41), some (.int v2), o3]) zd_158_97 rfl]
  rw [zs_iload_n (ls := [some (.ref 46), some (.ref 41), some (.int v2), o3]) zd_158_98 rfl]
  obtain ⟨r13, hr13, H⟩ := Option.bind_eq_some_iff.mp H
  rw [zp_callVv (st := [.int v2, .ref 46]) (as := [.ref 46, .int v2]) (rest := []) (e := 2) zd_158_99 rfl (by decide +kernel) (by decide) rfl rfl (Nat.le_of_ble_eq_true rfl) (zx_rcb_ok rfl (show 46 < 119 by decide)) (Nat.le_of_ble_eq_true rfl) rfl (by decide) (zt_Findings_noteRaces hr13)]
  rw [zs_iinc (ls := [some (.ref 46), some (.ref 41), some (.int v2), o3]) (x := v2) (z := (v2 + 1)) (ls' := [some (.ref 46), some (.ref 41), some (.int (v2 + 1)), o3]) zd_158_102 rfl rfl rfl]
  rw [zs_goto (t := 31) zd_158_105 rfl]
  exact hk31 H
set_option maxRecDepth 20000 in
theorem zt_Findings_gather_91_1 {a b L N : Nat} {k31 : zS → Int32 → Option (zS)} (hk31 : ∀ {σ : zS} {τ : zT} {v2 : Int32} {o3 : Option Value} {r : zS}, k31 σ v2 = some r → zx_go 5 158 31 [some (.ref 46), some (.ref 41), some (.int v2), o3] [] ((119, a, b), zx_pk (zK L) 119, σ, τ, zR) = some (none, ((119, a, b), zx_pk (zK L) 119, r, τ, zR))) {σ : zS} {τ : zT} {v2 : Int32} {o3 : Option Value} {r : zS} (H : zb_Findings_gather_91_1 k31 N σ v2 = some r) : zx_go 5 158 91 [some (.ref 46), some (.ref 41), some (.int v2), o3] [.ref 47] ((119, a, b), zx_pk (zK L) 119, σ, τ, zR) = some (none, ((119, a, b), zx_pk (zK L) 119, r, τ, zR)) := by
  unfold zb_Findings_gather_91_1 at H
  rw [zs_astore_n (x := 47) (ls' := [some (.ref 46), some (.ref 41), some (.int v2), some (.ref 47)]) zd_158_91 (Nat.le_of_ble_eq_true rfl) rfl]
  rw [zs_aload_n (ls := [some (.ref 46), some (.ref 41), some (.int v2), some (.ref 47)]) zd_158_92 rfl]
  rw [zs_iload_n (ls := [some (.ref 46), some (.ref 41), some (.int v2), some (.ref 47)]) zd_158_93 rfl]
  obtain ⟨r17, hr17, H⟩ := Option.bind_eq_some_iff.mp H
  rw [zp_callVv (st := [.int v2, .ref 47]) (as := [.ref 47, .int v2]) (rest := []) (e := 0) zd_158_94 rfl (by decide +kernel) (by decide) rfl rfl (Nat.le_of_ble_eq_true rfl) (zx_rcb_ok rfl (show 47 < 119 by decide)) (Nat.le_of_ble_eq_true rfl) rfl (by decide) (zt_Numbers_add_c5 hr17)]
  exact zt_Findings_gather_97 (hk31 := hk31) H
set_option maxRecDepth 20000 in
theorem zt_Findings_gather_91 {a b L N : Nat} {k31 : zS → Int32 → Option (zS)} (hk31 : ∀ {σ : zS} {τ : zT} {v2 : Int32} {o3 : Option Value} {r : zS}, k31 σ v2 = some r → zx_go 5 158 31 [some (.ref 46), some (.ref 41), some (.int v2), o3] [] ((119, a, b), zx_pk (zK L) 119, σ, τ, zR) = some (none, ((119, a, b), zx_pk (zK L) 119, r, τ, zR))) {σ : zS} {τ : zT} {v2 : Int32} {o3 : Option Value} {r : zS} (H : zb_Findings_gather_91 k31 N σ v2 = some r) : zx_go 5 158 91 [some (.ref 46), some (.ref 41), some (.int v2), o3] [.ref 49] ((119, a, b), zx_pk (zK L) 119, σ, τ, zR) = some (none, ((119, a, b), zx_pk (zK L) 119, r, τ, zR)) := by
  unfold zb_Findings_gather_91 at H
  rw [zs_astore_n (x := 49) (ls' := [some (.ref 46), some (.ref 41), some (.int v2), some (.ref 49)]) zd_158_91 (Nat.le_of_ble_eq_true rfl) rfl]
  rw [zs_aload_n (ls := [some (.ref 46), some (.ref 41), some (.int v2), some (.ref 49)]) zd_158_92 rfl]
  rw [zs_iload_n (ls := [some (.ref 46), some (.ref 41), some (.int v2), some (.ref 49)]) zd_158_93 rfl]
  obtain ⟨r16, hr16, H⟩ := Option.bind_eq_some_iff.mp H
  rw [zp_callVv (st := [.int v2, .ref 49]) (as := [.ref 49, .int v2]) (rest := []) (e := 0) zd_158_94 rfl (by decide +kernel) (by decide) rfl rfl (Nat.le_of_ble_eq_true rfl) (zx_rcb_ok rfl (show 49 < 119 by decide)) (Nat.le_of_ble_eq_true rfl) rfl (by decide) (zt_Numbers_add_c4 hr16)]
  exact zt_Findings_gather_97 (hk31 := hk31) H
set_option maxRecDepth 20000 in
theorem zt_Findings_gather_62 {a b L N : Nat} {k31 : zS → Int32 → Option (zS)} (hk31 : ∀ {σ : zS} {τ : zT} {v2 : Int32} {o3 : Option Value} {r : zS}, k31 σ v2 = some r → zx_go 5 158 31 [some (.ref 46), some (.ref 41), some (.int v2), o3] [] ((119, a, b), zx_pk (zK L) 119, σ, τ, zR) = some (none, ((119, a, b), zx_pk (zK L) 119, r, τ, zR))) {σ : zS} {τ : zT} {v2 : Int32} {o3 : Option Value} {r : zS} (H : zb_Findings_gather_62 k31 N σ v2 = some r) : zx_go 5 158 62 [some (.ref 46), some (.ref 41), some (.int v2), o3] [] ((119, a, b), zx_pk (zK L) 119, σ, τ, zR) = some (none, ((119, a, b), zx_pk (zK L) 119, r, τ, zR)) := by
  unfold zb_Findings_gather_62 at H
  rw [zs_aload_n (ls := [some (.ref 46), some (.ref 41), some (.int v2), o3]) zd_158_62 rfl]
  rw [zs_iload_n (ls := [some (.ref 46), some (.ref 41), some (.int v2), o3]) zd_158_63 rfl]
  obtain ⟨r11, hr11, H⟩ := Option.bind_eq_some_iff.mp H
  rw [zp_callVi (x := r11) (st := [.int v2, .ref 41]) (as := [.ref 41, .int v2]) (rest := []) (e := 1) zd_158_64 rfl (by decide +kernel) (by decide) rfl rfl (Nat.le_of_ble_eq_true rfl) (zx_rcb_ok rfl (show 41 < 119 by decide)) (Nat.le_of_ble_eq_true rfl) rfl (by decide) (zt_Space_isLast hr11)]
  by_cases c12 : r11 = 0
  · rw [if_pos c12] at H
    rw [zp_if_eq_t (x := r11) (t := 97) zd_158_67 rfl c12]
    exact zt_Findings_gather_97 (hk31 := hk31) H
  · rw [if_neg c12] at H
    rw [zp_if_eq_f (x := r11) (t := 97) zd_158_67 rfl c12]
    rw [zs_aload_n (ls := [some (.ref 46), some (.ref 41), some (.int v2), o3]) zd_158_70 rfl]
    rw [zs_getR (n := 119) (K := zx_pk (zK L) 119) (ρ := zR) (c := 0) (k := 1) (q := 46) (p := 35) zd_158_71 rfl rfl rfl (by decide) rfl]
    obtain ⟨r14, hr14, H⟩ := Option.bind_eq_some_iff.mp H
    rw [zp_callVi (x := r14) (st := [.ref 35]) (as := [.ref 35]) (rest := []) (e := 2) zd_158_74 rfl (by decide +kernel) (by decide) rfl rfl (Nat.le_of_ble_eq_true rfl) (zx_rcb_ok rfl (show 35 < 119 by decide)) (Nat.le_of_ble_eq_true rfl) rfl (by decide) (zt_Machine_isOver hr14)]
    by_cases c15 : r14 = 0
    · rw [if_pos c15] at H
      rw [zp_if_eq_t (x := r14) (t := 87) zd_158_77 rfl c15]
      rw [zs_aload_n (ls := [some (.ref 46), some (.ref 41), some (.int v2), o3]) zd_158_87 rfl]
      rw [zs_getR (n := 119) (K := zx_pk (zK L) 119) (ρ := zR) (c := 0) (k := 3) (q := 46) (p := 49) zd_158_88 rfl rfl rfl (by decide) rfl]
      exact zt_Findings_gather_91 (hk31 := hk31) H
    · rw [if_neg c15] at H
      rw [zp_if_eq_f (x := r14) (t := 87) zd_158_77 rfl c15]
      rw [zs_aload_n (ls := [some (.ref 46), some (.ref 41), some (.int v2), o3]) zd_158_80 rfl]
      rw [zs_getR (n := 119) (K := zx_pk (zK L) 119) (ρ := zR) (c := 0) (k := 2) (q := 46) (p := 47) zd_158_81 rfl rfl rfl (by decide) rfl]
      rw [zs_goto (t := 91) zd_158_84 rfl]
      exact zt_Findings_gather_91_1 (hk31 := hk31) H
set_option maxRecDepth 20000 in
theorem zt_Findings_gather_31 {a b L N : Nat} : ∀ {n : Nat} {σ : zS} {τ : zT} {v2 : Int32} {o3 : Option Value} {r : zS}, zb_Findings_gather_31 N n σ v2 = some r → zx_go 5 158 31 [some (.ref 46), some (.ref 41), some (.int v2), o3] [] ((119, a, b), zx_pk (zK L) 119, σ, τ, zR) = some (none, ((119, a, b), zx_pk (zK L) 119, r, τ, zR)) := by
  intro n
  induction n with
  | zero =>
    intro _ _ _ _ _ H
    cases H
  | succ n ih =>
    intro σ τ v2 o3 r H
    rw [zb_Findings_gather_31] at H
    rw [zs_iload_n (ls := [some (.ref 46), some (.ref 41), some (.int v2), o3]) zd_158_31 rfl]
    rw [zs_aload_n (ls := [some (.ref 46), some (.ref 41), some (.int v2), o3]) zd_158_32 rfl]
    rw [zp_getI (n := 119) (K := zx_pk (zK L) 119) (σ := σ) (c := 8) (k := 6) (q := 41) (v := (σ 41 6)) zd_158_33 rfl rfl rfl (by decide) rfl]
    by_cases c5 : (σ 41 6) ≤ v2
    · rw [if_pos c5] at H
      rw [zp_icmp_ge_t (x := v2) (y := (σ 41 6)) (t := 108) zd_158_36 rfl c5]
      rw [zs_aload_n (ls := [some (.ref 46), some (.ref 41), some (.int v2), o3]) zd_158_108 rfl]
      obtain ⟨r6, hr6, H⟩ := Option.bind_eq_some_iff.mp H
      rw [zp_callVv (st := [.ref 46]) (as := [.ref 46]) (rest := []) (e := 1) zd_158_109 rfl (by decide +kernel) (by decide) rfl rfl (Nat.le_of_ble_eq_true rfl) (zx_rcb_ok rfl (show 46 < 119 by decide)) (Nat.le_of_ble_eq_true rfl) rfl (by decide) (zt_Findings_listRaces hr6)]
      rw [zs_aload_n (ls := [some (.ref 46), some (.ref 41), some (.int v2), o3]) zd_158_112 rfl]
      rw [zs_getR (n := 119) (K := zx_pk (zK L) 119) (ρ := zR) (c := 0) (k := 7) (q := 46) (p := 58) zd_158_113 rfl rfl rfl (by decide) rfl]
      rw [zs_aload_n (ls := [some (.ref 46), some (.ref 41), some (.int v2), o3]) zd_158_116 rfl]
      obtain ⟨r7, hr7, H⟩ := Option.bind_eq_some_iff.mp H
      rw [zp_callVv (st := [.ref 41, .ref 58]) (as := [.ref 58, .ref 41]) (rest := []) (e := 4) zd_158_117 rfl (by decide +kernel) (by decide) rfl rfl (Nat.le_of_ble_eq_true rfl) (zx_rcb_ok rfl (show 58 < 119 by decide)) (Nat.le_of_ble_eq_true rfl) rfl (by decide) (zt_Outcomes_gather hr7)]
      have H := Option.some.inj H
      subst H
      exact zs_return zd_158_120 (by decide +kernel)
    · rw [if_neg c5] at H
      rw [zp_icmp_ge_f (x := v2) (y := (σ 41 6)) (t := 108) zd_158_36 rfl c5]
      rw [zs_aload_n (ls := [some (.ref 46), some (.ref 41), some (.int v2), o3]) zd_158_39 rfl]
      rw [zs_iload_n (ls := [some (.ref 46), some (.ref 41), some (.int v2), o3]) zd_158_40 rfl]
      obtain ⟨r8, hr8, H⟩ := Option.bind_eq_some_iff.mp H
      rw [zp_callVv (st := [.int v2, .ref 41]) (as := [.ref 41, .int v2]) (rest := []) (e := 3) zd_158_41 rfl (by decide +kernel) (by decide) rfl rfl (Nat.le_of_ble_eq_true rfl) (zx_rcb_ok rfl (show 41 < 119 by decide)) (Nat.le_of_ble_eq_true rfl) rfl (by decide) (zt_Space_load hr8)]
      rw [zs_aload_n (ls := [some (.ref 46), some (.ref 41), some (.int v2), o3]) zd_158_44 rfl]
      rw [zs_getR (n := 119) (K := zx_pk (zK L) 119) (ρ := zR) (c := 0) (k := 1) (q := 46) (p := 35) zd_158_45 rfl rfl rfl (by decide) rfl]
      obtain ⟨r9, hr9, H⟩ := Option.bind_eq_some_iff.mp H
      rw [zp_callVi (x := r9) (st := [.ref 35]) (as := [.ref 35]) (rest := []) (e := 1) zd_158_48 rfl (by decide +kernel) (by decide) rfl rfl (Nat.le_of_ble_eq_true rfl) (zx_rcb_ok rfl (show 35 < 119 by decide)) (Nat.le_of_ble_eq_true rfl) rfl (by decide) (zt_Machine_failed hr9)]
      by_cases c10 : r9 = 0
      · rw [if_pos c10] at H
        rw [zp_if_eq_t (x := r9) (t := 62) zd_158_51 rfl c10]
        exact zt_Findings_gather_62 (hk31 := ih) H
      · rw [if_neg c10] at H
        rw [zp_if_eq_f (x := r9) (t := 62) zd_158_51 rfl c10]
        rw [zs_aload_n (ls := [some (.ref 46), some (.ref 41), some (.int v2), o3]) zd_158_54 rfl]
        rw [zs_getR (n := 119) (K := zx_pk (zK L) 119) (ρ := zR) (c := 0) (k := 4) (q := 46) (p := 51) zd_158_55 rfl rfl rfl (by decide) rfl]
        rw [zs_iload_n (ls := [some (.ref 46), some (.ref 41), some (.int v2), o3]) zd_158_58 rfl]
        obtain ⟨r18, hr18, H⟩ := Option.bind_eq_some_iff.mp H
        rw [zp_callVv (st := [.int v2, .ref 51]) (as := [.ref 51, .int v2]) (rest := []) (e := 0) zd_158_59 rfl (by decide +kernel) (by decide) rfl rfl (Nat.le_of_ble_eq_true rfl) (zx_rcb_ok rfl (show 51 < 119 by decide)) (Nat.le_of_ble_eq_true rfl) rfl (by decide) (zt_Numbers_add_c6 hr18)]
        exact zt_Findings_gather_62 (hk31 := ih) H
set_option maxRecDepth 20000 in
theorem zt_Findings_gather {a b L N : Nat} {σ : zS} {τ : zT} {r : zS} (H : zf_Findings_gather N σ = some r) : zx_go 5 158 0 [some (.ref 46), some (.ref 41), none, none] [] ((119, a, b), zx_pk (zK L) 119, σ, τ, zR) = some (none, ((119, a, b), zx_pk (zK L) 119, r, τ, zR)) := by
  unfold zf_Findings_gather at H
  rw [zs_aload_n (ls := [some (.ref 46), some (.ref 41), none, none]) zd_158_0 rfl]
  rw [zs_getR (n := 119) (K := zx_pk (zK L) 119) (ρ := zR) (c := 0) (k := 2) (q := 46) (p := 47) zd_158_1 rfl rfl rfl (by decide) rfl]
  obtain ⟨r1, hr1, H⟩ := Option.bind_eq_some_iff.mp H
  rw [zp_callVv (st := [.ref 47]) (as := [.ref 47]) (rest := []) (e := 0) zd_158_4 rfl (by decide +kernel) (by decide) rfl rfl (Nat.le_of_ble_eq_true rfl) (zx_rcb_ok rfl (show 47 < 119 by decide)) (Nat.le_of_ble_eq_true rfl) rfl (by decide) (zt_Numbers_clear hr1)]
  rw [zs_aload_n (ls := [some (.ref 46), some (.ref 41), none, none]) zd_158_7 rfl]
  rw [zs_getR (n := 119) (K := zx_pk (zK L) 119) (ρ := zR) (c := 0) (k := 3) (q := 46) (p := 49) zd_158_8 rfl rfl rfl (by decide) rfl]
  obtain ⟨r2, hr2, H⟩ := Option.bind_eq_some_iff.mp H
  rw [zp_callVv (st := [.ref 49]) (as := [.ref 49]) (rest := []) (e := 0) zd_158_11 rfl (by decide +kernel) (by decide) rfl rfl (Nat.le_of_ble_eq_true rfl) (zx_rcb_ok rfl (show 49 < 119 by decide)) (Nat.le_of_ble_eq_true rfl) rfl (by decide) (zt_Numbers_clear_c1 hr2)]
  rw [zs_aload_n (ls := [some (.ref 46), some (.ref 41), none, none]) zd_158_14 rfl]
  rw [zs_getR (n := 119) (K := zx_pk (zK L) 119) (ρ := zR) (c := 0) (k := 4) (q := 46) (p := 51) zd_158_15 rfl rfl rfl (by decide) rfl]
  obtain ⟨r3, hr3, H⟩ := Option.bind_eq_some_iff.mp H
  rw [zp_callVv (st := [.ref 51]) (as := [.ref 51]) (rest := []) (e := 0) zd_158_18 rfl (by decide +kernel) (by decide) rfl rfl (Nat.le_of_ble_eq_true rfl) (zx_rcb_ok rfl (show 51 < 119 by decide)) (Nat.le_of_ble_eq_true rfl) rfl (by decide) (zt_Numbers_clear_c2 hr3)]
  rw [zs_aload_n (ls := [some (.ref 46), some (.ref 41), none, none]) zd_158_21 rfl]
  rw [zs_getR (n := 119) (K := zx_pk (zK L) 119) (ρ := zR) (c := 0) (k := 8) (q := 46) (p := 57) zd_158_22 rfl rfl rfl (by decide) rfl]
  rw [zs_iconst (z := (-1)) zd_158_25 (by decide)]
  obtain ⟨r4, hr4, H⟩ := Option.bind_eq_some_iff.mp H
  rw [zp_callSv (st := [.int (-1), .ref 57]) (as := [.ref 57, .int (-1)]) (rest := []) (e := 0) zd_158_26 rfl (by decide +kernel) (by decide) rfl rfl (Nat.le_of_ble_eq_true rfl) rfl (Nat.le_of_ble_eq_true rfl) rfl (by decide) (zt_Arrays_fill_c5 hr4)]
  rw [zs_iconst (z := 0) zd_158_29 (by decide)]
  rw [zs_istore_n (x := 0) (ls' := [some (.ref 46), some (.ref 41), some (.int 0), none]) zd_158_30 (Nat.le_of_ble_eq_true rfl) rfl]
  exact zt_Findings_gather_31  H
set_option maxRecDepth 20000 in
theorem zt_X_run_57 {a b L N : Nat} {σ : zS} {τ : zT} {r : Int32 × zS} (H : zb_X_run_57 N σ = some r) : zx_go 6 129 57 [some (.ref 2)] [] ((119, a, b), zx_pk (zK L) 119, σ, τ, zR) = some (some (.int r.1), ((119, a, b), zx_pk (zK L) 119, r.2, τ, zR)) := by
  unfold zb_X_run_57 at H
  rw [zs_aload_n (ls := [some (.ref 2)]) zd_129_57 rfl]
  rw [zp_getZ (n := 119) (K := zx_pk (zK L) 119) (σ := σ) (c := 11) (k := 15) (q := 2) (v := (σ 2 15)) zd_129_58 rfl rfl rfl (by decide) rfl]
  by_cases c3 : (σ 2 15) = 0
  · rw [if_pos c3] at H
    rw [zp_if_eq_t (x := (σ 2 15)) (t := 74) zd_129_61 rfl c3]
    rw [zs_bipush (z := (-103)) zd_129_74 (by decide)]
    have H := Option.some.inj H
    subst H
    exact zs_ireturn zd_129_76 (by decide +kernel)
  · rw [if_neg c3] at H
    rw [zp_if_eq_f (x := (σ 2 15)) (t := 74) zd_129_61 rfl c3]
    rw [zs_aload_n (ls := [some (.ref 2)]) zd_129_64 rfl]
    rw [zs_getR (n := 119) (K := zx_pk (zK L) 119) (ρ := zR) (c := 11) (k := 4) (q := 2) (p := 41) zd_129_65 rfl rfl rfl (by decide) rfl]
    rw [zp_getI (n := 119) (K := zx_pk (zK L) 119) (σ := σ) (c := 8) (k := 6) (q := 41) (v := (σ 41 6)) zd_129_68 rfl rfl rfl (by decide) rfl]
    rw [zs_goto (t := 76) zd_129_71 rfl]
    have H := Option.some.inj H
    subst H
    exact zs_ireturn zd_129_76 rfl
set_option maxRecDepth 20000 in
theorem zt_X_run {a b L N : Nat} {σ : zS} {τ : zT} {r : Int32 × zS} (H : zf_X_run N σ = some r) : zx_go 6 129 0 [some (.ref 2)] [] ((119, a, b), zx_pk (zK L) 119, σ, τ, zR) = some (some (.int r.1), ((119, a, b), zx_pk (zK L) 119, r.2, τ, zR)) := by
  unfold zf_X_run at H
  rw [zs_aload_n (ls := [some (.ref 2)]) zd_129_0 rfl]
  rw [zp_getZ (n := 119) (K := zx_pk (zK L) 119) (σ := σ) (c := 11) (k := 13) (q := 2) (v := (σ 2 13)) zd_129_1 rfl rfl rfl (by decide) rfl]
  by_cases c1 : ¬ (σ 2 13) = 0
  · rw [if_pos c1] at H
    rw [zp_if_ne_t (x := (σ 2 13)) (t := 10) zd_129_4 rfl c1]
    rw [zs_aload_n (ls := [some (.ref 2)]) zd_129_10 rfl]
    rw [zs_iconst (z := (-1)) zd_129_11 (by decide)]
    rw [zs_putI (n := 119) (K := zx_pk (zK L) 119) (c := 11) (k := 16) (q := 2) (x := (-1)) zd_129_12 rfl rfl (by decide +kernel) rfl (by decide)]
    rw [zs_aload_n (ls := [some (.ref 2)]) zd_129_15 rfl]
    rw [zp_getZ (n := 119) (K := zx_pk (zK L) 119) (σ := (zx_up σ 2 16 (-1))) (c := 11) (k := 14) (q := 2) (v := (σ 2 14)) zd_129_16 rfl rfl rfl (by decide) (show ((zx_up σ 2 16 (-1)) : zS) 2 14 = (σ 2 14) from ((zx_up_nj (by decide)).trans rfl))]
    by_cases c2 : ¬ (σ 2 14) = 0
    · rw [if_pos c2] at H
      rw [zp_if_ne_t (x := (σ 2 14)) (t := 57) zd_129_19 rfl c2]
      exact zt_X_run_57  H
    · rw [if_neg c2] at H
      rw [zp_if_ne_f (x := (σ 2 14)) (t := 57) zd_129_19 rfl c2]
      rw [zs_aload_n (ls := [some (.ref 2)]) zd_129_22 rfl]
      rw [zs_iconst (z := 1) zd_129_23 (by decide)]
      rw [zs_putZ (n := 119) (K := zx_pk (zK L) 119) (c := 11) (k := 14) (q := 2) (x := 1) zd_129_24 rfl rfl (by decide +kernel) rfl (by decide) rfl]
      rw [zs_aload_n (ls := [some (.ref 2)]) zd_129_27 rfl]
      rw [zs_aload_n (ls := [some (.ref 2)]) zd_129_28 rfl]
      rw [zs_getR (n := 119) (K := zx_pk (zK L) 119) (ρ := zR) (c := 11) (k := 4) (q := 2) (p := 41) zd_129_29 rfl rfl rfl (by decide) rfl]
      rw [zs_iconst (z := (-1)) zd_129_32 (by decide)]
      obtain ⟨r4, hr4, H⟩ := Option.bind_eq_some_iff.mp H
      rw [zp_callVi (x := r4.1) (st := [.int (-1), .ref 41, .ref 2]) (as := [.ref 41, .int (-1)]) (rest := [.ref 2]) (e := 5) zd_129_33 rfl (by decide +kernel) (by decide) rfl rfl (Nat.le_of_ble_eq_true rfl) (zx_rcb_ok rfl (show 41 < 119 by decide)) (Nat.le_of_ble_eq_true rfl) rfl (by decide) (zt_Space_explore hr4)]
      by_cases c5 : r4.1 = 0 ∨ r4.1 = 1
      · rw [if_pos c5] at H
        rw [zs_putZ (n := 119) (K := zx_pk (zK L) 119) (c := 11) (k := 15) (q := 2) (x := r4.1) zd_129_36 rfl rfl (by decide +kernel) rfl (by decide) (zJ_bt c5)]
        rw [zs_aload_n (ls := [some (.ref 2)]) zd_129_39 rfl]
        rw [zp_getZ (n := 119) (K := zx_pk (zK L) 119) (σ := (zx_up r4.2 2 15 r4.1)) (c := 11) (k := 15) (q := 2) (v := r4.1) zd_129_40 rfl rfl rfl (by decide) (show ((zx_up r4.2 2 15 r4.1) : zS) 2 15 = r4.1 from zx_up_at)]
        by_cases c6 : r4.1 = 0
        · rw [if_pos c6] at H
          rw [zp_if_eq_t (x := r4.1) (t := 57) zd_129_43 rfl c6]
          exact zt_X_run_57  H
        · rw [if_neg c6] at H
          rw [zp_if_eq_f (x := r4.1) (t := 57) zd_129_43 rfl c6]
          rw [zs_aload_n (ls := [some (.ref 2)]) zd_129_46 rfl]
          rw [zs_getR (n := 119) (K := zx_pk (zK L) 119) (ρ := zR) (c := 11) (k := 5) (q := 2) (p := 46) zd_129_47 rfl rfl rfl (by decide) rfl]
          rw [zs_aload_n (ls := [some (.ref 2)]) zd_129_50 rfl]
          rw [zs_getR (n := 119) (K := zx_pk (zK L) 119) (ρ := zR) (c := 11) (k := 4) (q := 2) (p := 41) zd_129_51 rfl rfl rfl (by decide) rfl]
          obtain ⟨r7, hr7, H⟩ := Option.bind_eq_some_iff.mp H
          rw [zp_callVv (st := [.ref 41, .ref 46]) (as := [.ref 46, .ref 41]) (rest := []) (e := 5) zd_129_54 rfl (by decide +kernel) (by decide) rfl rfl (Nat.le_of_ble_eq_true rfl) (zx_rcb_ok rfl (show 46 < 119 by decide)) (Nat.le_of_ble_eq_true rfl) rfl (by decide) (zt_Findings_gather hr7)]
          exact zt_X_run_57  H
      · rw [if_neg c5] at H
        cases H
  · rw [if_neg c1] at H
    rw [zp_if_ne_f (x := (σ 2 13)) (t := 10) zd_129_4 rfl c1]
    rw [zs_bipush (z := (-101)) zd_129_7 (by decide)]
    have H := Option.some.inj H
    subst H
    exact zs_ireturn zd_129_9 (by decide +kernel)
set_option maxRecDepth 20000 in
theorem zt_M_forget_2 {a b L N : Nat} : ∀ {n : Nat} {σ : zS} {τ : zT} {v1 : Int32} {v2 : Int32} {r : zS}, zb_M_forget_2 N n σ v1 v2 = some r → zx_go 0 175 2 [some (.ref 82), some (.int v1), some (.int v2)] [] ((119, a, b), zx_pk (zK L) 119, σ, τ, zR) = some (none, ((119, a, b), zx_pk (zK L) 119, r, τ, zR)) := by
  intro n
  induction n with
  | zero =>
    intro _ _ _ _ _ H
    cases H
  | succ n ih =>
    intro σ τ v1 v2 r H
    rw [zb_M_forget_2] at H
    rw [zs_iload_n (ls := [some (.ref 82), some (.int v1), some (.int v2)]) zd_175_2 rfl]
    rw [zs_sipush (z := 8192) zd_175_3 (by decide)]
    by_cases c1 : 8192 ≤ v2
    · rw [if_pos c1] at H
      rw [zp_icmp_ge_t (x := v2) (y := 8192) (t := 22) zd_175_6 rfl c1]
      rw [zs_aload_n (ls := [some (.ref 82), some (.int v1), some (.int v2)]) zd_175_22 rfl]
      rw [zs_iload_n (ls := [some (.ref 82), some (.int v1), some (.int v2)]) zd_175_23 rfl]
      rw [zs_putI (n := 119) (K := zx_pk (zK L) 119) (c := 12) (k := 51) (q := 82) (x := v1) zd_175_24 rfl rfl (by decide +kernel) rfl (by decide)]
      rw [zs_aload_n (ls := [some (.ref 82), some (.int v1), some (.int v2)]) zd_175_27 rfl]
      rw [zs_iconst (z := 0) zd_175_28 (by decide)]
      rw [zs_putI (n := 119) (K := zx_pk (zK L) 119) (c := 12) (k := 52) (q := 82) (x := 0) zd_175_29 rfl rfl (by decide +kernel) rfl (by decide)]
      have H := Option.some.inj H
      subst H
      exact zs_return zd_175_32 (by decide +kernel)
    · rw [if_neg c1] at H
      rw [zp_icmp_ge_f (x := v2) (y := 8192) (t := 22) zd_175_6 rfl c1]
      rw [zs_aload_n (ls := [some (.ref 82), some (.int v1), some (.int v2)]) zd_175_9 rfl]
      rw [zs_getR (n := 119) (K := zx_pk (zK L) 119) (ρ := zR) (c := 12) (k := 49) (q := 82) (p := 109) zd_175_10 rfl rfl rfl (by decide) rfl]
      rw [zs_iload_n (ls := [some (.ref 82), some (.int v1), some (.int v2)]) zd_175_13 rfl]
      rw [zs_iconst (z := (-1)) zd_175_14 (by decide)]
      by_cases c2 : 0 ≤ v2 ∧ v2 < 8192
      · rw [if_pos c2] at H
        rw [zp_iastore (n := 119) (K := zx_pk (zK L) 119) (q := 109) (m := 8192) (i := v2) (k := v2.toNatClampNeg) (x := (-1)) (z := (-1)) zd_175_15 rfl ⟨by decide, by decide⟩ (zJ_in c2 rfl) rfl rfl]
        rw [zs_iinc (ls := [some (.ref 82), some (.int v1), some (.int v2)]) (x := v2) (z := (v2 + 1)) (ls' := [some (.ref 82), some (.int v1), some (.int (v2 + 1))]) zd_175_16 rfl rfl rfl]
        rw [zs_goto (t := 2) zd_175_19 rfl]
        exact ih H
      · rw [if_neg c2] at H
        cases H
set_option maxRecDepth 20000 in
theorem zt_M_forget {a b L N : Nat} {σ : zS} {τ : zT} {x1 : Int32} {r : zS} (H : zf_M_forget N σ x1 = some r) : zx_go 0 175 0 [some (.ref 82), some (.int x1), none] [] ((119, a, b), zx_pk (zK L) 119, σ, τ, zR) = some (none, ((119, a, b), zx_pk (zK L) 119, r, τ, zR)) := by
  unfold zf_M_forget at H
  rw [zs_iconst (z := 0) zd_175_0 (by decide)]
  rw [zs_istore_n (x := 0) (ls' := [some (.ref 82), some (.int x1), some (.int 0)]) zd_175_1 (Nat.le_of_ble_eq_true rfl) rfl]
  exact zt_M_forget_2  H
set_option maxRecDepth 20000 in
theorem zt_M_at {a b L : Nat} {σ : zS} {τ : zT} {x1 : Int32} {r : Int32} (H : zf_M_at σ x1 = some r) : zx_go 0 178 0 [some (.ref 82), some (.int x1)] [] ((119, a, b), zx_pk (zK L) 119, σ, τ, zR) = some (some (.int r), ((119, a, b), zx_pk (zK L) 119, σ, τ, zR)) := by
  unfold zf_M_at at H
  rw [zs_bipush (z := 14) zd_178_0 (by decide)]
  rw [zs_bipush (z := 6) zd_178_2 (by decide)]
  rw [zs_iload_n (ls := [some (.ref 82), some (.int x1)]) zd_178_4 rfl]
  rw [zp_imul (x := 6) (y := x1) (z := (6 * x1)) zd_178_5 rfl]
  rw [zp_iadd (x := 14) (y := (6 * x1)) (z := (14 + (6 * x1))) zd_178_6 rfl]
  have H := Option.some.inj H
  subst H
  exact zs_ireturn zd_178_7 rfl
set_option maxRecDepth 20000 in
theorem zt_M_letGo_42 {a b L N : Nat} {k2 : zS → Int32 → Int32 → Option (zS)} (hk2 : ∀ {σ : zS} {τ : zT} {v1 : Int32} {v2 : Int32} {r : zS}, k2 σ v1 v2 = some r → zx_go 0 180 2 [some (.ref 82), some (.int v1), some (.int v2)] [] ((119, a, b), zx_pk (zK L) 119, σ, τ, zR) = some (none, ((119, a, b), zx_pk (zK L) 119, r, τ, zR))) {σ : zS} {τ : zT} {v1 : Int32} {v2 : Int32} {r : zS} (H : zb_M_letGo_42 k2 N σ v1 v2 = some r) : zx_go 0 180 42 [some (.ref 82), some (.int v1), some (.int v2)] [] ((119, a, b), zx_pk (zK L) 119, σ, τ, zR) = some (none, ((119, a, b), zx_pk (zK L) 119, r, τ, zR)) := by
  unfold zb_M_letGo_42 at H
  rw [zs_iinc (ls := [some (.ref 82), some (.int v1), some (.int v2)]) (x := v2) (z := (v2 + 1)) (ls' := [some (.ref 82), some (.int v1), some (.int (v2 + 1))]) zd_180_42 rfl rfl rfl]
  rw [zs_goto (t := 2) zd_180_45 rfl]
  exact hk2 H
set_option maxRecDepth 20000 in
theorem zt_M_letGo_2 {a b L N : Nat} : ∀ {n : Nat} {σ : zS} {τ : zT} {v1 : Int32} {v2 : Int32} {r : zS}, zb_M_letGo_2 N n σ v1 v2 = some r → zx_go 0 180 2 [some (.ref 82), some (.int v1), some (.int v2)] [] ((119, a, b), zx_pk (zK L) 119, σ, τ, zR) = some (none, ((119, a, b), zx_pk (zK L) 119, r, τ, zR)) := by
  intro n
  induction n with
  | zero =>
    intro _ _ _ _ _ H
    cases H
  | succ n ih =>
    intro σ τ v1 v2 r H
    rw [zb_M_letGo_2] at H
    rw [zs_iload_n (ls := [some (.ref 82), some (.int v1), some (.int v2)]) zd_180_2 rfl]
    rw [zs_iconst (z := 4) zd_180_3 (by decide)]
    by_cases c1 : 4 ≤ v2
    · rw [if_pos c1] at H
      rw [zp_icmp_ge_t (x := v2) (y := 4) (t := 48) zd_180_4 rfl c1]
      have H := Option.some.inj H
      subst H
      exact zs_return zd_180_48 (by decide +kernel)
    · rw [if_neg c1] at H
      rw [zp_icmp_ge_f (x := v2) (y := 4) (t := 48) zd_180_4 rfl c1]
      rw [zs_aload_n (ls := [some (.ref 82), some (.int v1), some (.int v2)]) zd_180_7 rfl]
      rw [zs_getR (n := 119) (K := zx_pk (zK L) 119) (ρ := zR) (c := 12) (k := 47) (q := 82) (p := 107) zd_180_8 rfl rfl rfl (by decide) rfl]
      rw [zs_bipush (z := 6) zd_180_11 (by decide)]
      rw [zs_iload_n (ls := [some (.ref 82), some (.int v1), some (.int v2)]) zd_180_13 rfl]
      rw [zp_iadd (x := 6) (y := v2) (z := (6 + v2)) zd_180_14 rfl]
      by_cases c2 : 0 ≤ (6 + v2) ∧ (6 + v2) < 40
      · rw [if_pos c2] at H
        rw [zp_iaload (n := 119) (K := zx_pk (zK L) 119) (σ := σ) (q := 107) (m := 40) (i := (6 + v2)) (k := (6 + v2).toNatClampNeg) (v := (σ 107 (6 + v2).toNatClampNeg)) zd_180_15 rfl (by decide) (zJ_in c2 rfl) rfl rfl]
        rw [zs_iload_n (ls := [some (.ref 82), some (.int v1), some (.int v2)]) zd_180_16 rfl]
        rw [zs_iconst (z := 1) zd_180_17 (by decide)]
        rw [zp_iadd (x := v1) (y := 1) (z := (v1 + 1)) zd_180_18 rfl]
        by_cases c3 : ¬ (σ 107 (6 + v2).toNatClampNeg) = (v1 + 1)
        · rw [if_pos c3] at H
          rw [zp_icmp_ne_t (x := (σ 107 (6 + v2).toNatClampNeg)) (y := (v1 + 1)) (t := 42) zd_180_19 rfl c3]
          exact zt_M_letGo_42 (hk2 := ih) H
        · rw [if_neg c3] at H
          rw [zp_icmp_ne_f (x := (σ 107 (6 + v2).toNatClampNeg)) (y := (v1 + 1)) (t := 42) zd_180_19 rfl c3]
          rw [zs_aload_n (ls := [some (.ref 82), some (.int v1), some (.int v2)]) zd_180_22 rfl]
          rw [zs_getR (n := 119) (K := zx_pk (zK L) 119) (ρ := zR) (c := 12) (k := 47) (q := 82) (p := 107) zd_180_23 rfl rfl rfl (by decide) rfl]
          rw [zs_bipush (z := 6) zd_180_26 (by decide)]
          rw [zs_iload_n (ls := [some (.ref 82), some (.int v1), some (.int v2)]) zd_180_28 rfl]
          rw [zp_iadd (x := 6) (y := v2) (z := (6 + v2)) zd_180_29 rfl]
          rw [zs_iconst (z := 0) zd_180_30 (by decide)]
          by_cases c4 : 0 ≤ (6 + v2) ∧ (6 + v2) < 40
          · rw [if_pos c4] at H
            rw [zp_iastore (n := 119) (K := zx_pk (zK L) 119) (q := 107) (m := 40) (i := (6 + v2)) (k := (6 + v2).toNatClampNeg) (x := 0) (z := 0) zd_180_31 rfl ⟨by decide, by decide⟩ (zJ_in c4 rfl) rfl rfl]
            rw [zs_aload_n (ls := [some (.ref 82), some (.int v1), some (.int v2)]) zd_180_32 rfl]
            rw [zs_getR (n := 119) (K := zx_pk (zK L) 119) (ρ := zR) (c := 12) (k := 47) (q := 82) (p := 107) zd_180_33 rfl rfl rfl (by decide) rfl]
            rw [zs_bipush (z := 10) zd_180_36 (by decide)]
            rw [zs_iload_n (ls := [some (.ref 82), some (.int v1), some (.int v2)]) zd_180_38 rfl]
            rw [zp_iadd (x := 10) (y := v2) (z := (10 + v2)) zd_180_39 rfl]
            rw [zs_iconst (z := 0) zd_180_40 (by decide)]
            by_cases c5 : 0 ≤ (10 + v2) ∧ (10 + v2) < 40
            · rw [if_pos c5] at H
              rw [zp_iastore (n := 119) (K := zx_pk (zK L) 119) (q := 107) (m := 40) (i := (10 + v2)) (k := (10 + v2).toNatClampNeg) (x := 0) (z := 0) zd_180_41 rfl ⟨by decide, by decide⟩ (zJ_in c5 rfl) rfl rfl]
              exact zt_M_letGo_42 (hk2 := ih) H
            · rw [if_neg c5] at H
              cases H
          · rw [if_neg c4] at H
            cases H
      · rw [if_neg c2] at H
        cases H
set_option maxRecDepth 20000 in
theorem zt_M_letGo {a b L N : Nat} {σ : zS} {τ : zT} {x1 : Int32} {r : zS} (H : zf_M_letGo N σ x1 = some r) : zx_go 0 180 0 [some (.ref 82), some (.int x1), none] [] ((119, a, b), zx_pk (zK L) 119, σ, τ, zR) = some (none, ((119, a, b), zx_pk (zK L) 119, r, τ, zR)) := by
  unfold zf_M_letGo at H
  rw [zs_iconst (z := 0) zd_180_0 (by decide)]
  rw [zs_istore_n (x := 0) (ls' := [some (.ref 82), some (.int x1), some (.int 0)]) zd_180_1 (Nat.le_of_ble_eq_true rfl) rfl]
  exact zt_M_letGo_2  H
set_option maxRecDepth 20000 in
theorem zt_M_goTo {a b L N : Nat} {σ : zS} {τ : zT} {x1 : Int32} {x2 : Int32} {r : zS} (H : zf_M_goTo N σ x1 x2 = some r) : zx_go 1 179 0 [some (.ref 82), some (.int x1), some (.int x2)] [] ((119, a, b), zx_pk (zK L) 119, σ, τ, zR) = some (none, ((119, a, b), zx_pk (zK L) 119, r, τ, zR)) := by
  unfold zf_M_goTo at H
  rw [zs_aload_n (ls := [some (.ref 82), some (.int x1), some (.int x2)]) zd_179_0 rfl]
  rw [zs_getR (n := 119) (K := zx_pk (zK L) 119) (ρ := zR) (c := 12) (k := 47) (q := 82) (p := 107) zd_179_1 rfl rfl rfl (by decide) rfl]
  rw [zs_aload_n (ls := [some (.ref 82), some (.int x1), some (.int x2)]) zd_179_4 rfl]
  rw [zs_iload_n (ls := [some (.ref 82), some (.int x1), some (.int x2)]) zd_179_5 rfl]
  obtain ⟨r1, hr1, H⟩ := Option.bind_eq_some_iff.mp H
  rw [zp_callVi (x := r1) (st := [.int x1, .ref 82, .ref 107]) (as := [.ref 82, .int x1]) (rest := [.ref 107]) (e := 0) zd_179_6 rfl (by decide +kernel) (by decide) rfl rfl (Nat.le_of_ble_eq_true rfl) (zx_rcb_ok rfl (show 82 < 119 by decide)) (Nat.le_of_ble_eq_true rfl) rfl (by decide) (zt_M_at hr1)]
  rw [zs_iload_n (ls := [some (.ref 82), some (.int x1), some (.int x2)]) zd_179_9 rfl]
  by_cases c2 : 0 ≤ r1 ∧ r1 < 40
  · rw [if_pos c2] at H
    rw [zp_iastore (n := 119) (K := zx_pk (zK L) 119) (q := 107) (m := 40) (i := r1) (k := r1.toNatClampNeg) (x := x2) (z := x2) zd_179_10 rfl ⟨by decide, by decide⟩ (zJ_in c2 rfl) rfl rfl]
    rw [zs_iload_n (ls := [some (.ref 82), some (.int x1), some (.int x2)]) zd_179_11 rfl]
    rw [zs_aload_n (ls := [some (.ref 82), some (.int x1), some (.int x2)]) zd_179_12 rfl]
    rw [zs_getR (n := 119) (K := zx_pk (zK L) 119) (ρ := zR) (c := 12) (k := 24) (q := 82) (p := 90) zd_179_13 rfl rfl rfl (by decide) rfl]
    rw [zs_iload_n (ls := [some (.ref 82), some (.int x1), some (.int x2)]) zd_179_16 rfl]
    by_cases c3 : 0 ≤ x1 ∧ x1 < 4
    · rw [if_pos c3] at H
      rw [zp_iaload (n := 119) (K := zx_pk (zK L) 119) (σ := (zx_up σ 107 r1.toNatClampNeg x2)) (q := 90) (m := 4) (i := x1) (k := x1.toNatClampNeg) (v := (σ 90 x1.toNatClampNeg)) zd_179_17 rfl (by decide) (zJ_in c3 rfl) rfl (show ((zx_up σ 107 r1.toNatClampNeg x2) : zS) 90 x1.toNatClampNeg = (σ 90 x1.toNatClampNeg) from ((zx_up_ne (by decide)).trans rfl))]
      by_cases c4 : ¬ x2 = (σ 90 x1.toNatClampNeg)
      · rw [if_pos c4] at H
        rw [zp_icmp_ne_t (x := x2) (y := (σ 90 x1.toNatClampNeg)) (t := 39) zd_179_18 rfl c4]
        have H := Option.some.inj H
        subst H
        exact zs_return zd_179_39 (by decide +kernel)
      · rw [if_neg c4] at H
        rw [zp_icmp_ne_f (x := x2) (y := (σ 90 x1.toNatClampNeg)) (t := 39) zd_179_18 rfl c4]
        rw [zs_aload_n (ls := [some (.ref 82), some (.int x1), some (.int x2)]) zd_179_21 rfl]
        rw [zs_getR (n := 119) (K := zx_pk (zK L) 119) (ρ := zR) (c := 12) (k := 47) (q := 82) (p := 107) zd_179_22 rfl rfl rfl (by decide) rfl]
        rw [zs_aload_n (ls := [some (.ref 82), some (.int x1), some (.int x2)]) zd_179_25 rfl]
        rw [zs_iload_n (ls := [some (.ref 82), some (.int x1), some (.int x2)]) zd_179_26 rfl]
        obtain ⟨r5, hr5, H⟩ := Option.bind_eq_some_iff.mp H
        rw [zp_callVi (x := r5) (st := [.int x1, .ref 82, .ref 107]) (as := [.ref 82, .int x1]) (rest := [.ref 107]) (e := 0) zd_179_27 rfl (by decide +kernel) (by decide) rfl rfl (Nat.le_of_ble_eq_true rfl) (zx_rcb_ok rfl (show 82 < 119 by decide)) (Nat.le_of_ble_eq_true rfl) rfl (by decide) (zt_M_at hr5)]
        rw [zs_iconst (z := 1) zd_179_30 (by decide)]
        rw [zp_iadd (x := r5) (y := 1) (z := (r5 + 1)) zd_179_31 rfl]
        rw [zs_iconst (z := 4) zd_179_32 (by decide)]
        by_cases c6 : 0 ≤ (r5 + 1) ∧ (r5 + 1) < 40
        · rw [if_pos c6] at H
          rw [zp_iastore (n := 119) (K := zx_pk (zK L) 119) (q := 107) (m := 40) (i := (r5 + 1)) (k := (r5 + 1).toNatClampNeg) (x := 4) (z := 4) zd_179_33 rfl ⟨by decide, by decide⟩ (zJ_in c6 rfl) rfl rfl]
          rw [zs_aload_n (ls := [some (.ref 82), some (.int x1), some (.int x2)]) zd_179_34 rfl]
          rw [zs_iload_n (ls := [some (.ref 82), some (.int x1), some (.int x2)]) zd_179_35 rfl]
          obtain ⟨r7, hr7, H⟩ := Option.bind_eq_some_iff.mp H
          rw [zp_callVv (st := [.int x1, .ref 82]) (as := [.ref 82, .int x1]) (rest := []) (e := 0) zd_179_36 rfl (by decide +kernel) (by decide) rfl rfl (Nat.le_of_ble_eq_true rfl) (zx_rcb_ok rfl (show 82 < 119 by decide)) (Nat.le_of_ble_eq_true rfl) rfl (by decide) (zt_M_letGo hr7)]
          have H := Option.some.inj H
          subst H
          exact zs_return zd_179_39 (by decide +kernel)
        · rw [if_neg c6] at H
          cases H
    · rw [if_neg c3] at H
      cases H
  · rw [if_neg c2] at H
    cases H
set_option maxRecDepth 20000 in
theorem zt_M_begin {a b L N : Nat} {σ : zS} {τ : zT} {x1 : Int32} {r : zS} (H : zf_M_begin N σ x1 = some r) : zx_go 2 177 0 [some (.ref 82), some (.int x1)] [] ((119, a, b), zx_pk (zK L) 119, σ, τ, zR) = some (none, ((119, a, b), zx_pk (zK L) 119, r, τ, zR)) := by
  unfold zf_M_begin at H
  rw [zs_aload_n (ls := [some (.ref 82), some (.int x1)]) zd_177_0 rfl]
  rw [zs_getR (n := 119) (K := zx_pk (zK L) 119) (ρ := zR) (c := 12) (k := 47) (q := 82) (p := 107) zd_177_1 rfl rfl rfl (by decide) rfl]
  rw [zs_aload_n (ls := [some (.ref 82), some (.int x1)]) zd_177_4 rfl]
  rw [zs_iload_n (ls := [some (.ref 82), some (.int x1)]) zd_177_5 rfl]
  obtain ⟨r1, hr1, H⟩ := Option.bind_eq_some_iff.mp H
  rw [zp_callVi (x := r1) (st := [.int x1, .ref 82, .ref 107]) (as := [.ref 82, .int x1]) (rest := [.ref 107]) (e := 0) zd_177_6 rfl (by decide +kernel) (by decide) rfl rfl (Nat.le_of_ble_eq_true rfl) (zx_rcb_ok rfl (show 82 < 119 by decide)) (Nat.le_of_ble_eq_true rfl) rfl (by decide) (zt_M_at hr1)]
  rw [zs_iconst (z := 1) zd_177_9 (by decide)]
  rw [zp_iadd (x := r1) (y := 1) (z := (r1 + 1)) zd_177_10 rfl]
  rw [zs_iconst (z := 1) zd_177_11 (by decide)]
  by_cases c2 : 0 ≤ (r1 + 1) ∧ (r1 + 1) < 40
  · rw [if_pos c2] at H
    rw [zp_iastore (n := 119) (K := zx_pk (zK L) 119) (q := 107) (m := 40) (i := (r1 + 1)) (k := (r1 + 1).toNatClampNeg) (x := 1) (z := 1) zd_177_12 rfl ⟨by decide, by decide⟩ (zJ_in c2 rfl) rfl rfl]
    rw [zs_aload_n (ls := [some (.ref 82), some (.int x1)]) zd_177_13 rfl]
    rw [zs_iload_n (ls := [some (.ref 82), some (.int x1)]) zd_177_14 rfl]
    rw [zs_iconst (z := 0) zd_177_15 (by decide)]
    obtain ⟨r3, hr3, H⟩ := Option.bind_eq_some_iff.mp H
    rw [zp_callVv (st := [.int 0, .int x1, .ref 82]) (as := [.ref 82, .int x1, .int 0]) (rest := []) (e := 1) zd_177_16 rfl (by decide +kernel) (by decide) rfl rfl (Nat.le_of_ble_eq_true rfl) (zx_rcb_ok rfl (show 82 < 119 by decide)) (Nat.le_of_ble_eq_true rfl) rfl (by decide) (zt_M_goTo hr3)]
    have H := Option.some.inj H
    subst H
    exact zs_return zd_177_19 (by decide +kernel)
  · rw [if_neg c2] at H
    cases H
set_option maxRecDepth 20000 in
theorem zt_M_firstState_136 {a b L N : Nat} {k51 : zS → Int32 → Option (zS)} (hk51 : ∀ {σ : zS} {τ : zT} {v1 : Int32} {o2 : Option Value} {o3 : Option Value} {r : zS}, k51 σ v1 = some r → zx_go 3 176 51 [some (.ref 82), some (.int v1), o2, o3] [] ((119, a, b), zx_pk (zK L) 119, σ, τ, zR) = some (none, ((119, a, b), zx_pk (zK L) 119, r, τ, zR))) {σ : zS} {τ : zT} {v1 : Int32} {o2 : Option Value} {o3 : Option Value} {r : zS} (H : zb_M_firstState_136 k51 N σ v1 = some r) : zx_go 3 176 136 [some (.ref 82), some (.int v1), o2, o3] [] ((119, a, b), zx_pk (zK L) 119, σ, τ, zR) = some (none, ((119, a, b), zx_pk (zK L) 119, r, τ, zR)) := by
  unfold zb_M_firstState_136 at H
  rw [zs_iinc (ls := [some (.ref 82), some (.int v1), o2, o3]) (x := v1) (z := (v1 + 1)) (ls' := [some (.ref 82), some (.int (v1 + 1)), o2, o3]) zd_176_136 rfl rfl rfl]
  rw [zs_goto (t := 51) zd_176_139 rfl]
  exact hk51 H
set_option maxRecDepth 20000 in
theorem zt_M_firstState_120 {a b L N : Nat} {k63 : zS → Int32 → Int32 → Int32 → Option (zS)} (hk63 : ∀ {σ : zS} {τ : zT} {v1 : Int32} {v2 : Int32} {v3 : Int32} {r : zS}, k63 σ v1 v2 v3 = some r → zx_go 3 176 63 [some (.ref 82), some (.int v1), some (.int v2), some (.int v3)] [] ((119, a, b), zx_pk (zK L) 119, σ, τ, zR) = some (none, ((119, a, b), zx_pk (zK L) 119, r, τ, zR))) {σ : zS} {τ : zT} {v1 : Int32} {v3 : Int32} {s0 : Int32} {o2 : Option Value} {r : zS} (H : zb_M_firstState_120 k63 N σ v1 v3 s0 = some r) : zx_go 3 176 120 [some (.ref 82), some (.int v1), o2, some (.int v3)] [.int s0] ((119, a, b), zx_pk (zK L) 119, σ, τ, zR) = some (none, ((119, a, b), zx_pk (zK L) 119, r, τ, zR)) := by
  unfold zb_M_firstState_120 at H
  rw [zs_istore_n (x := s0) (ls' := [some (.ref 82), some (.int v1), some (.int s0), some (.int v3)]) zd_176_120 (Nat.le_of_ble_eq_true rfl) rfl]
  rw [zs_iinc (ls := [some (.ref 82), some (.int v1), some (.int s0), some (.int v3)]) (x := v3) (z := (v3 + 1)) (ls' := [some (.ref 82), some (.int v1), some (.int s0), some (.int (v3 + 1))]) zd_176_121 rfl rfl rfl]
  rw [zs_goto (t := 63) zd_176_124 rfl]
  exact hk63 H
set_option maxRecDepth 20000 in
theorem zt_M_firstState_119 {a b L N : Nat} {k63 : zS → Int32 → Int32 → Int32 → Option (zS)} (hk63 : ∀ {σ : zS} {τ : zT} {v1 : Int32} {v2 : Int32} {v3 : Int32} {r : zS}, k63 σ v1 v2 v3 = some r → zx_go 3 176 63 [some (.ref 82), some (.int v1), some (.int v2), some (.int v3)] [] ((119, a, b), zx_pk (zK L) 119, σ, τ, zR) = some (none, ((119, a, b), zx_pk (zK L) 119, r, τ, zR))) {σ : zS} {τ : zT} {v1 : Int32} {v3 : Int32} {o2 : Option Value} {r : zS} (H : zb_M_firstState_119 k63 N σ v1 v3 = some r) : zx_go 3 176 119 [some (.ref 82), some (.int v1), o2, some (.int v3)] [] ((119, a, b), zx_pk (zK L) 119, σ, τ, zR) = some (none, ((119, a, b), zx_pk (zK L) 119, r, τ, zR)) := by
  unfold zb_M_firstState_119 at H
  rw [zs_iconst (z := 0) zd_176_119 (by decide)]
  exact zt_M_firstState_120 (hk63 := hk63) H
set_option maxRecDepth 20000 in
theorem zt_M_firstState_115 {a b L N : Nat} {k63 : zS → Int32 → Int32 → Int32 → Option (zS)} (hk63 : ∀ {σ : zS} {τ : zT} {v1 : Int32} {v2 : Int32} {v3 : Int32} {r : zS}, k63 σ v1 v2 v3 = some r → zx_go 3 176 63 [some (.ref 82), some (.int v1), some (.int v2), some (.int v3)] [] ((119, a, b), zx_pk (zK L) 119, σ, τ, zR) = some (none, ((119, a, b), zx_pk (zK L) 119, r, τ, zR))) {σ : zS} {τ : zT} {v1 : Int32} {v3 : Int32} {o2 : Option Value} {r : zS} (H : zb_M_firstState_115 k63 N σ v1 v3 = some r) : zx_go 3 176 115 [some (.ref 82), some (.int v1), o2, some (.int v3)] [] ((119, a, b), zx_pk (zK L) 119, σ, τ, zR) = some (none, ((119, a, b), zx_pk (zK L) 119, r, τ, zR)) := by
  unfold zb_M_firstState_115 at H
  rw [zs_iconst (z := 1) zd_176_115 (by decide)]
  rw [zs_goto (t := 120) zd_176_116 rfl]
  exact zt_M_firstState_120 (hk63 := hk63) H
set_option maxRecDepth 20000 in
theorem zt_M_firstState_63 {a b L N : Nat} {k51 : zS → Int32 → Option (zS)} (hk51 : ∀ {σ : zS} {τ : zT} {v1 : Int32} {o2 : Option Value} {o3 : Option Value} {r : zS}, k51 σ v1 = some r → zx_go 3 176 51 [some (.ref 82), some (.int v1), o2, o3] [] ((119, a, b), zx_pk (zK L) 119, σ, τ, zR) = some (none, ((119, a, b), zx_pk (zK L) 119, r, τ, zR))) : ∀ {n : Nat} {σ : zS} {τ : zT} {v1 : Int32} {v2 : Int32} {v3 : Int32} {r : zS}, zb_M_firstState_63 k51 N n σ v1 v2 v3 = some r → zx_go 3 176 63 [some (.ref 82), some (.int v1), some (.int v2), some (.int v3)] [] ((119, a, b), zx_pk (zK L) 119, σ, τ, zR) = some (none, ((119, a, b), zx_pk (zK L) 119, r, τ, zR)) := by
  intro n
  induction n with
  | zero =>
    intro _ _ _ _ _ _ H
    cases H
  | succ n ih =>
    intro σ τ v1 v2 v3 r H
    rw [zb_M_firstState_63] at H
    rw [zs_iload_n (ls := [some (.ref 82), some (.int v1), some (.int v2), some (.int v3)]) zd_176_63 rfl]
    rw [zs_bipush (z := 24) zd_176_64 (by decide)]
    rw [zs_aload_n (ls := [some (.ref 82), some (.int v1), some (.int v2), some (.int v3)]) zd_176_66 rfl]
    rw [zp_getI (n := 119) (K := zx_pk (zK L) 119) (σ := σ) (c := 12) (k := 17) (q := 82) (v := (σ 82 17)) zd_176_67 rfl rfl rfl (by decide) rfl]
    rw [zp_imul (x := 24) (y := (σ 82 17)) (z := (24 * (σ 82 17))) zd_176_70 rfl]
    by_cases c4 : (24 * (σ 82 17)) ≤ v3
    · rw [if_pos c4] at H
      rw [zp_icmp_ge_t (x := v3) (y := (24 * (σ 82 17))) (t := 127) zd_176_71 rfl c4]
      rw [zs_iload_n (ls := [some (.ref 82), some (.int v1), some (.int v2), some (.int v3)]) zd_176_127 rfl]
      by_cases c5 : ¬ v2 = 0
      · rw [if_pos c5] at H
        rw [zp_if_ne_t (x := v2) (t := 136) zd_176_128 rfl c5]
        exact zt_M_firstState_136 (hk51 := hk51) H
      · rw [if_neg c5] at H
        rw [zp_if_ne_f (x := v2) (t := 136) zd_176_128 rfl c5]
        rw [zs_aload_n (ls := [some (.ref 82), some (.int v1), some (.int v2), some (.int v3)]) zd_176_131 rfl]
        rw [zs_iload_n (ls := [some (.ref 82), some (.int v1), some (.int v2), some (.int v3)]) zd_176_132 rfl]
        obtain ⟨r6, hr6, H⟩ := Option.bind_eq_some_iff.mp H
        rw [zp_callVv (st := [.int v1, .ref 82]) (as := [.ref 82, .int v1]) (rest := []) (e := 2) zd_176_133 rfl (by decide +kernel) (by decide) rfl rfl (Nat.le_of_ble_eq_true rfl) (zx_rcb_ok rfl (show 82 < 119 by decide)) (Nat.le_of_ble_eq_true rfl) rfl (by decide) (zt_M_begin hr6)]
        exact zt_M_firstState_136 (hk51 := hk51) H
    · rw [if_neg c4] at H
      rw [zp_icmp_ge_f (x := v3) (y := (24 * (σ 82 17))) (t := 127) zd_176_71 rfl c4]
      rw [zs_iload_n (ls := [some (.ref 82), some (.int v1), some (.int v2), some (.int v3)]) zd_176_74 rfl]
      by_cases c7 : ¬ v2 = 0
      · rw [if_pos c7] at H
        rw [zp_if_ne_t (x := v2) (t := 115) zd_176_75 rfl c7]
        exact zt_M_firstState_115 (hk63 := ih) H
      · rw [if_neg c7] at H
        rw [zp_if_ne_f (x := v2) (t := 115) zd_176_75 rfl c7]
        rw [zs_iload_n (ls := [some (.ref 82), some (.int v1), some (.int v2), some (.int v3)]) zd_176_78 rfl]
        rw [zs_bipush (z := 24) zd_176_79 (by decide)]
        rw [zp_irem (x := v3) (y := 24) (z := (zJ_rem v3 24)) zd_176_81 (by decide) rfl]
        rw [zs_aload_n (ls := [some (.ref 82), some (.int v1), some (.int v2), some (.int v3)]) zd_176_82 rfl]
        rw [zs_getR (n := 119) (K := zx_pk (zK L) 119) (ρ := zR) (c := 12) (k := 24) (q := 82) (p := 90) zd_176_83 rfl rfl rfl (by decide) rfl]
        rw [zs_iload_n (ls := [some (.ref 82), some (.int v1), some (.int v2), some (.int v3)]) zd_176_86 rfl]
        rw [zs_bipush (z := 24) zd_176_87 (by decide)]
        rw [zp_idiv (x := v3) (y := 24) (z := (v3 / 24)) zd_176_89 (by decide) rfl]
        by_cases c8 : 0 ≤ (v3 / 24) ∧ (v3 / 24) < 4
        · rw [if_pos c8] at H
          rw [zp_iaload (n := 119) (K := zx_pk (zK L) 119) (σ := σ) (q := 90) (m := 4) (i := (v3 / 24)) (k := (v3 / 24).toNatClampNeg) (v := (σ 90 (v3 / 24).toNatClampNeg)) zd_176_90 rfl (by decide) (zJ_in c8 rfl) rfl rfl]
          by_cases c9 : (σ 90 (v3 / 24).toNatClampNeg) ≤ (zJ_rem v3 24)
          · rw [if_pos c9] at H
            rw [zp_icmp_ge_t (x := (zJ_rem v3 24)) (y := (σ 90 (v3 / 24).toNatClampNeg)) (t := 119) zd_176_91 rfl c9]
            exact zt_M_firstState_119 (hk63 := ih) H
          · rw [if_neg c9] at H
            rw [zp_icmp_ge_f (x := (zJ_rem v3 24)) (y := (σ 90 (v3 / 24).toNatClampNeg)) (t := 119) zd_176_91 rfl c9]
            rw [zs_aload_n (ls := [some (.ref 82), some (.int v1), some (.int v2), some (.int v3)]) zd_176_94 rfl]
            rw [zs_getR (n := 119) (K := zx_pk (zK L) 119) (ρ := zR) (c := 12) (k := 27) (q := 82) (p := 92) zd_176_95 rfl rfl rfl (by decide) rfl]
            rw [zs_iload_n (ls := [some (.ref 82), some (.int v1), some (.int v2), some (.int v3)]) zd_176_98 rfl]
            by_cases c10 : 0 ≤ v3 ∧ v3 < 96
            · rw [if_pos c10] at H
              rw [zp_iaload (n := 119) (K := zx_pk (zK L) 119) (σ := σ) (q := 92) (m := 96) (i := v3) (k := v3.toNatClampNeg) (v := (σ 92 v3.toNatClampNeg)) zd_176_99 rfl (by decide) (zJ_in c10 rfl) rfl rfl]
              rw [zs_bipush (z := 10) zd_176_100 (by decide)]
              by_cases c11 : ¬ (σ 92 v3.toNatClampNeg) = 10
              · rw [if_pos c11] at H
                rw [zp_icmp_ne_t (x := (σ 92 v3.toNatClampNeg)) (y := 10) (t := 119) zd_176_102 rfl c11]
                exact zt_M_firstState_119 (hk63 := ih) H
              · rw [if_neg c11] at H
                rw [zp_icmp_ne_f (x := (σ 92 v3.toNatClampNeg)) (y := 10) (t := 119) zd_176_102 rfl c11]
                rw [zs_aload_n (ls := [some (.ref 82), some (.int v1), some (.int v2), some (.int v3)]) zd_176_105 rfl]
                rw [zs_getR (n := 119) (K := zx_pk (zK L) 119) (ρ := zR) (c := 12) (k := 28) (q := 82) (p := 93) zd_176_106 rfl rfl rfl (by decide) rfl]
                rw [zs_iload_n (ls := [some (.ref 82), some (.int v1), some (.int v2), some (.int v3)]) zd_176_109 rfl]
                by_cases c12 : 0 ≤ v3 ∧ v3 < 96
                · rw [if_pos c12] at H
                  rw [zp_iaload (n := 119) (K := zx_pk (zK L) 119) (σ := σ) (q := 93) (m := 96) (i := v3) (k := v3.toNatClampNeg) (v := (σ 93 v3.toNatClampNeg)) zd_176_110 rfl (by decide) (zJ_in c12 rfl) rfl rfl]
                  rw [zs_iload_n (ls := [some (.ref 82), some (.int v1), some (.int v2), some (.int v3)]) zd_176_111 rfl]
                  by_cases c13 : ¬ (σ 93 v3.toNatClampNeg) = v1
                  · rw [if_pos c13] at H
                    rw [zp_icmp_ne_t (x := (σ 93 v3.toNatClampNeg)) (y := v1) (t := 119) zd_176_112 rfl c13]
                    exact zt_M_firstState_119 (hk63 := ih) H
                  · rw [if_neg c13] at H
                    rw [zp_icmp_ne_f (x := (σ 93 v3.toNatClampNeg)) (y := v1) (t := 119) zd_176_112 rfl c13]
                    exact zt_M_firstState_115 (hk63 := ih) H
                · rw [if_neg c12] at H
                  cases H
            · rw [if_neg c10] at H
              cases H
        · rw [if_neg c8] at H
          cases H
set_option maxRecDepth 20000 in
theorem zt_M_firstState_51 {a b L N : Nat} : ∀ {n : Nat} {σ : zS} {τ : zT} {v1 : Int32} {o2 : Option Value} {o3 : Option Value} {r : zS}, zb_M_firstState_51 N n σ v1 = some r → zx_go 3 176 51 [some (.ref 82), some (.int v1), o2, o3] [] ((119, a, b), zx_pk (zK L) 119, σ, τ, zR) = some (none, ((119, a, b), zx_pk (zK L) 119, r, τ, zR)) := by
  intro n
  induction n with
  | zero =>
    intro _ _ _ _ _ _ H
    cases H
  | succ n ih =>
    intro σ τ v1 o2 o3 r H
    rw [zb_M_firstState_51] at H
    rw [zs_iload_n (ls := [some (.ref 82), some (.int v1), o2, o3]) zd_176_51 rfl]
    rw [zs_aload_n (ls := [some (.ref 82), some (.int v1), o2, o3]) zd_176_52 rfl]
    rw [zp_getI (n := 119) (K := zx_pk (zK L) 119) (σ := σ) (c := 12) (k := 17) (q := 82) (v := (σ 82 17)) zd_176_53 rfl rfl rfl (by decide) rfl]
    by_cases c3 : (σ 82 17) ≤ v1
    · rw [if_pos c3] at H
      rw [zp_icmp_ge_t (x := v1) (y := (σ 82 17)) (t := 142) zd_176_56 rfl c3]
      have H := Option.some.inj H
      subst H
      exact zs_return zd_176_142 (by decide +kernel)
    · rw [if_neg c3] at H
      rw [zp_icmp_ge_f (x := v1) (y := (σ 82 17)) (t := 142) zd_176_56 rfl c3]
      rw [zs_iconst (z := 0) zd_176_59 (by decide)]
      rw [zs_istore_n (x := 0) (ls' := [some (.ref 82), some (.int v1), some (.int 0), o3]) zd_176_60 (Nat.le_of_ble_eq_true rfl) rfl]
      rw [zs_iconst (z := 0) zd_176_61 (by decide)]
      rw [zs_istore_n (x := 0) (ls' := [some (.ref 82), some (.int v1), some (.int 0), some (.int 0)]) zd_176_62 (Nat.le_of_ble_eq_true rfl) rfl]
      exact zt_M_firstState_63 (hk51 := ih) H
set_option maxRecDepth 20000 in
theorem zt_M_firstState_23 {a b L N : Nat} : ∀ {n : Nat} {σ : zS} {τ : zT} {v1 : Int32} {o2 : Option Value} {o3 : Option Value} {r : zS}, zb_M_firstState_23 N n σ v1 = some r → zx_go 3 176 23 [some (.ref 82), some (.int v1), o2, o3] [] ((119, a, b), zx_pk (zK L) 119, σ, τ, zR) = some (none, ((119, a, b), zx_pk (zK L) 119, r, τ, zR)) := by
  intro n
  induction n with
  | zero =>
    intro _ _ _ _ _ _ H
    cases H
  | succ n ih =>
    intro σ τ v1 o2 o3 r H
    rw [zb_M_firstState_23] at H
    rw [zs_iload_n (ls := [some (.ref 82), some (.int v1), o2, o3]) zd_176_23 rfl]
    rw [zs_aload_n (ls := [some (.ref 82), some (.int v1), o2, o3]) zd_176_24 rfl]
    rw [zp_getI (n := 119) (K := zx_pk (zK L) 119) (σ := σ) (c := 12) (k := 15) (q := 82) (v := (σ 82 15)) zd_176_25 rfl rfl rfl (by decide) rfl]
    by_cases c2 : (σ 82 15) ≤ v1
    · rw [if_pos c2] at H
      rw [zp_icmp_ge_t (x := v1) (y := (σ 82 15)) (t := 49) zd_176_28 rfl c2]
      rw [zs_iconst (z := 0) zd_176_49 (by decide)]
      rw [zs_istore_n (x := 0) (ls' := [some (.ref 82), some (.int 0), o2, o3]) zd_176_50 (Nat.le_of_ble_eq_true rfl) rfl]
      exact zt_M_firstState_51  H
    · rw [if_neg c2] at H
      rw [zp_icmp_ge_f (x := v1) (y := (σ 82 15)) (t := 49) zd_176_28 rfl c2]
      rw [zs_aload_n (ls := [some (.ref 82), some (.int v1), o2, o3]) zd_176_31 rfl]
      rw [zs_getR (n := 119) (K := zx_pk (zK L) 119) (ρ := zR) (c := 12) (k := 47) (q := 82) (p := 107) zd_176_32 rfl rfl rfl (by decide) rfl]
      rw [zs_iload_n (ls := [some (.ref 82), some (.int v1), o2, o3]) zd_176_35 rfl]
      rw [zs_aload_n (ls := [some (.ref 82), some (.int v1), o2, o3]) zd_176_36 rfl]
      rw [zs_getR (n := 119) (K := zx_pk (zK L) 119) (ρ := zR) (c := 12) (k := 23) (q := 82) (p := 89) zd_176_37 rfl rfl rfl (by decide) rfl]
      rw [zs_iload_n (ls := [some (.ref 82), some (.int v1), o2, o3]) zd_176_40 rfl]
      by_cases c14 : 0 ≤ v1 ∧ v1 < 6
      · rw [if_pos c14] at H
        rw [zp_iaload (n := 119) (K := zx_pk (zK L) 119) (σ := σ) (q := 89) (m := 6) (i := v1) (k := v1.toNatClampNeg) (v := (σ 89 v1.toNatClampNeg)) zd_176_41 rfl (by decide) (zJ_in c14 rfl) rfl rfl]
        by_cases c15 : 0 ≤ v1 ∧ v1 < 40
        · rw [if_pos c15] at H
          rw [zp_iastore (n := 119) (K := zx_pk (zK L) 119) (q := 107) (m := 40) (i := v1) (k := v1.toNatClampNeg) (x := (σ 89 v1.toNatClampNeg)) (z := (σ 89 v1.toNatClampNeg)) zd_176_42 rfl ⟨by decide, by decide⟩ (zJ_in c15 rfl) rfl rfl]
          rw [zs_iinc (ls := [some (.ref 82), some (.int v1), o2, o3]) (x := v1) (z := (v1 + 1)) (ls' := [some (.ref 82), some (.int (v1 + 1)), o2, o3]) zd_176_43 rfl rfl rfl]
          rw [zs_goto (t := 23) zd_176_46 rfl]
          exact ih H
        · rw [if_neg c15] at H
          cases H
      · rw [if_neg c14] at H
        cases H
set_option maxRecDepth 20000 in
theorem zt_M_firstState_2 {a b L N : Nat} : ∀ {n : Nat} {σ : zS} {τ : zT} {v1 : Int32} {o2 : Option Value} {o3 : Option Value} {r : zS}, zb_M_firstState_2 N n σ v1 = some r → zx_go 3 176 2 [some (.ref 82), some (.int v1), o2, o3] [] ((119, a, b), zx_pk (zK L) 119, σ, τ, zR) = some (none, ((119, a, b), zx_pk (zK L) 119, r, τ, zR)) := by
  intro n
  induction n with
  | zero =>
    intro _ _ _ _ _ _ H
    cases H
  | succ n ih =>
    intro σ τ v1 o2 o3 r H
    rw [zb_M_firstState_2] at H
    rw [zs_iload_n (ls := [some (.ref 82), some (.int v1), o2, o3]) zd_176_2 rfl]
    rw [zs_bipush (z := 40) zd_176_3 (by decide)]
    by_cases c1 : 40 ≤ v1
    · rw [if_pos c1] at H
      rw [zp_icmp_ge_t (x := v1) (y := 40) (t := 21) zd_176_5 rfl c1]
      rw [zs_iconst (z := 0) zd_176_21 (by decide)]
      rw [zs_istore_n (x := 0) (ls' := [some (.ref 82), some (.int 0), o2, o3]) zd_176_22 (Nat.le_of_ble_eq_true rfl) rfl]
      exact zt_M_firstState_23  H
    · rw [if_neg c1] at H
      rw [zp_icmp_ge_f (x := v1) (y := 40) (t := 21) zd_176_5 rfl c1]
      rw [zs_aload_n (ls := [some (.ref 82), some (.int v1), o2, o3]) zd_176_8 rfl]
      rw [zs_getR (n := 119) (K := zx_pk (zK L) 119) (ρ := zR) (c := 12) (k := 47) (q := 82) (p := 107) zd_176_9 rfl rfl rfl (by decide) rfl]
      rw [zs_iload_n (ls := [some (.ref 82), some (.int v1), o2, o3]) zd_176_12 rfl]
      rw [zs_iconst (z := 0) zd_176_13 (by decide)]
      by_cases c16 : 0 ≤ v1 ∧ v1 < 40
      · rw [if_pos c16] at H
        rw [zp_iastore (n := 119) (K := zx_pk (zK L) 119) (q := 107) (m := 40) (i := v1) (k := v1.toNatClampNeg) (x := 0) (z := 0) zd_176_14 rfl ⟨by decide, by decide⟩ (zJ_in c16 rfl) rfl rfl]
        rw [zs_iinc (ls := [some (.ref 82), some (.int v1), o2, o3]) (x := v1) (z := (v1 + 1)) (ls' := [some (.ref 82), some (.int (v1 + 1)), o2, o3]) zd_176_15 rfl rfl rfl]
        rw [zs_goto (t := 2) zd_176_18 rfl]
        exact ih H
      · rw [if_neg c16] at H
        cases H
set_option maxRecDepth 20000 in
theorem zt_M_firstState {a b L N : Nat} {σ : zS} {τ : zT} {r : zS} (H : zf_M_firstState N σ = some r) : zx_go 3 176 0 [some (.ref 82), none, none, none] [] ((119, a, b), zx_pk (zK L) 119, σ, τ, zR) = some (none, ((119, a, b), zx_pk (zK L) 119, r, τ, zR)) := by
  unfold zf_M_firstState at H
  rw [zs_iconst (z := 0) zd_176_0 (by decide)]
  rw [zs_istore_n (x := 0) (ls' := [some (.ref 82), some (.int 0), none, none]) zd_176_1 (Nat.le_of_ble_eq_true rfl) rfl]
  exact zt_M_firstState_2  H
set_option maxRecDepth 20000 in
theorem zt_M_put_145 {a b L N : Nat} : ∀ {n : Nat} {σ : zS} {τ : zT} {v1 : Int32} {v2 : Int32} {v3 : Int32} {o4 : Option Value} {r : Int32 × zS}, zb_M_put_145 N n σ v1 v2 v3 = some r → zx_go 0 181 145 [some (.ref 82), some (.int v1), some (.int v2), some (.int v3), o4] [] ((119, a, b), zx_pk (zK L) 119, σ, τ, zR) = some (some (.int r.1), ((119, a, b), zx_pk (zK L) 119, r.2, τ, zR)) := by
  intro n
  induction n with
  | zero =>
    intro _ _ _ _ _ _ _ H
    cases H
  | succ n ih =>
    intro σ τ v1 v2 v3 o4 r H
    rw [zb_M_put_145] at H
    rw [zs_iload_n (ls := [some (.ref 82), some (.int v1), some (.int v2), some (.int v3), o4]) zd_181_145 rfl]
    rw [zs_bipush (z := 40) zd_181_146 (by decide)]
    by_cases c5 : 40 ≤ v3
    · rw [if_pos c5] at H
      rw [zp_icmp_ge_t (x := v3) (y := 40) (t := 175) zd_181_148 rfl c5]
      rw [zs_aload_n (ls := [some (.ref 82), some (.int v1), some (.int v2), some (.int v3), o4]) zd_181_175 rfl]
      rw [zs_getR (n := 119) (K := zx_pk (zK L) 119) (ρ := zR) (c := 12) (k := 50) (q := 82) (p := 110) zd_181_176 rfl rfl rfl (by decide) rfl]
      rw [zs_iload_n (ls := [some (.ref 82), some (.int v1), some (.int v2), some (.int v3), o4]) zd_181_179 rfl]
      rw [zs_aload_n (ls := [some (.ref 82), some (.int v1), some (.int v2), some (.int v3), o4]) zd_181_180 rfl]
      rw [zs_getR (n := 119) (K := zx_pk (zK L) 119) (ρ := zR) (c := 12) (k := 49) (q := 82) (p := 109) zd_181_181 rfl rfl rfl (by decide) rfl]
      rw [zs_iload_n (ls := [some (.ref 82), some (.int v1), some (.int v2), some (.int v3), o4]) zd_181_184 rfl]
      by_cases c6 : 0 ≤ v1 ∧ v1 < 8192
      · rw [if_pos c6] at H
        rw [zp_iaload (n := 119) (K := zx_pk (zK L) 119) (σ := σ) (q := 109) (m := 8192) (i := v1) (k := v1.toNatClampNeg) (v := (σ 109 v1.toNatClampNeg)) zd_181_185 rfl (by decide) (zJ_in c6 rfl) rfl rfl]
        by_cases c7 : 0 ≤ v2 ∧ v2 < 8000
        · rw [if_pos c7] at H
          rw [zp_iastore (n := 119) (K := zx_pk (zK L) 119) (q := 110) (m := 8000) (i := v2) (k := v2.toNatClampNeg) (x := (σ 109 v1.toNatClampNeg)) (z := (σ 109 v1.toNatClampNeg)) zd_181_186 rfl ⟨by decide, by decide⟩ (zJ_in c7 rfl) rfl rfl]
          rw [zs_aload_n (ls := [some (.ref 82), some (.int v1), some (.int v2), some (.int v3), o4]) zd_181_187 rfl]
          rw [zs_getR (n := 119) (K := zx_pk (zK L) 119) (ρ := zR) (c := 12) (k := 49) (q := 82) (p := 109) zd_181_188 rfl rfl rfl (by decide) rfl]
          rw [zs_iload_n (ls := [some (.ref 82), some (.int v1), some (.int v2), some (.int v3), o4]) zd_181_191 rfl]
          rw [zs_iload_n (ls := [some (.ref 82), some (.int v1), some (.int v2), some (.int v3), o4]) zd_181_192 rfl]
          by_cases c8 : 0 ≤ v1 ∧ v1 < 8192
          · rw [if_pos c8] at H
            rw [zp_iastore (n := 119) (K := zx_pk (zK L) 119) (q := 109) (m := 8192) (i := v1) (k := v1.toNatClampNeg) (x := v2) (z := v2) zd_181_193 rfl ⟨by decide, by decide⟩ (zJ_in c8 rfl) rfl rfl]
            rw [zs_aload_n (ls := [some (.ref 82), some (.int v1), some (.int v2), some (.int v3), o4]) zd_181_194 rfl]
            rw [zs_dup (a := .ref 82) zd_181_195 rfl]
            rw [zp_getI (n := 119) (K := zx_pk (zK L) 119) (σ := (zx_up (zx_up σ 110 v2.toNatClampNeg (σ 109 v1.toNatClampNeg)) 109 v1.toNatClampNeg v2)) (c := 12) (k := 52) (q := 82) (v := (σ 82 52)) zd_181_196 rfl rfl rfl (by decide) (show ((zx_up (zx_up σ 110 v2.toNatClampNeg (σ 109 v1.toNatClampNeg)) 109 v1.toNatClampNeg v2) : zS) 82 52 = (σ 82 52) from ((zx_up_ne (by decide)).trans ((zx_up_ne (by decide)).trans rfl)))]
            rw [zs_iconst (z := 1) zd_181_199 (by decide)]
            rw [zp_iadd (x := (σ 82 52)) (y := 1) (z := ((σ 82 52) + 1)) zd_181_200 rfl]
            rw [zs_putI (n := 119) (K := zx_pk (zK L) 119) (c := 12) (k := 52) (q := 82) (x := ((σ 82 52) + 1)) zd_181_201 rfl rfl (by decide +kernel) rfl (by decide)]
            rw [zs_iload_n (ls := [some (.ref 82), some (.int v1), some (.int v2), some (.int v3), o4]) zd_181_204 rfl]
            have H := Option.some.inj H
            subst H
            exact zs_ireturn zd_181_205 rfl
          · rw [if_neg c8] at H
            cases H
        · rw [if_neg c7] at H
          cases H
      · rw [if_neg c6] at H
        cases H
    · rw [if_neg c5] at H
      rw [zp_icmp_ge_f (x := v3) (y := 40) (t := 175) zd_181_148 rfl c5]
      rw [zs_aload_n (ls := [some (.ref 82), some (.int v1), some (.int v2), some (.int v3), o4]) zd_181_151 rfl]
      rw [zs_getR (n := 119) (K := zx_pk (zK L) 119) (ρ := zR) (c := 12) (k := 48) (q := 82) (p := 108) zd_181_152 rfl rfl rfl (by decide) rfl]
      rw [zs_bipush (z := 40) zd_181_155 (by decide)]
      rw [zs_iload_n (ls := [some (.ref 82), some (.int v1), some (.int v2), some (.int v3), o4]) zd_181_157 rfl]
      rw [zp_imul (x := 40) (y := v2) (z := (40 * v2)) zd_181_158 rfl]
      rw [zs_iload_n (ls := [some (.ref 82), some (.int v1), some (.int v2), some (.int v3), o4]) zd_181_159 rfl]
      rw [zp_iadd (x := (40 * v2)) (y := v3) (z := ((40 * v2) + v3)) zd_181_160 rfl]
      rw [zs_aload_n (ls := [some (.ref 82), some (.int v1), some (.int v2), some (.int v3), o4]) zd_181_161 rfl]
      rw [zs_getR (n := 119) (K := zx_pk (zK L) 119) (ρ := zR) (c := 12) (k := 47) (q := 82) (p := 107) zd_181_162 rfl rfl rfl (by decide) rfl]
      rw [zs_iload_n (ls := [some (.ref 82), some (.int v1), some (.int v2), some (.int v3), o4]) zd_181_165 rfl]
      by_cases c9 : 0 ≤ v3 ∧ v3 < 40
      · rw [if_pos c9] at H
        rw [zp_iaload (n := 119) (K := zx_pk (zK L) 119) (σ := σ) (q := 107) (m := 40) (i := v3) (k := v3.toNatClampNeg) (v := (σ 107 v3.toNatClampNeg)) zd_181_166 rfl (by decide) (zJ_in c9 rfl) rfl rfl]
        rw [zp_i2b (x := (σ 107 v3.toNatClampNeg)) (z := (zJ_byte (σ 107 v3.toNatClampNeg))) zd_181_167 rfl]
        by_cases c10 : 0 ≤ ((40 * v2) + v3) ∧ ((40 * v2) + v3) < 320000
        · rw [if_pos c10] at H
          rw [zp_bastore (n := 119) (K := zx_pk (zK L) 119) (q := 108) (m := 320000) (i := ((40 * v2) + v3)) (k := ((40 * v2) + v3).toNatClampNeg) (x := (zJ_byte (σ 107 v3.toNatClampNeg))) (z := (zJ_byte (zJ_byte (σ 107 v3.toNatClampNeg)))) zd_181_168 rfl ⟨by decide, by decide⟩ (zJ_in c10 rfl) rfl rfl]
          rw [zs_iinc (ls := [some (.ref 82), some (.int v1), some (.int v2), some (.int v3), o4]) (x := v3) (z := (v3 + 1)) (ls' := [some (.ref 82), some (.int v1), some (.int v2), some (.int (v3 + 1)), o4]) zd_181_169 rfl rfl rfl]
          rw [zs_goto (t := 145) zd_181_172 rfl]
          exact ih H
        · rw [if_neg c10] at H
          cases H
      · rw [if_neg c9] at H
        cases H
set_option maxRecDepth 20000 in
theorem zt_M_put_105 {a b L N : Nat} {k50 : zS → Int32 → Int32 → Option (Int32 × zS)} (hk50 : ∀ {σ : zS} {τ : zT} {v1 : Int32} {v2 : Int32} {o3 : Option Value} {o4 : Option Value} {r : Int32 × zS}, k50 σ v1 v2 = some r → zx_go 0 181 50 [some (.ref 82), some (.int v1), some (.int v2), o3, o4] [] ((119, a, b), zx_pk (zK L) 119, σ, τ, zR) = some (some (.int r.1), ((119, a, b), zx_pk (zK L) 119, r.2, τ, zR))) {σ : zS} {τ : zT} {v1 : Int32} {v2 : Int32} {v3 : Int32} {o4 : Option Value} {r : Int32 × zS} (H : zb_M_put_105 k50 N σ v1 v2 v3 = some r) : zx_go 0 181 105 [some (.ref 82), some (.int v1), some (.int v2), some (.int v3), o4] [] ((119, a, b), zx_pk (zK L) 119, σ, τ, zR) = some (some (.int r.1), ((119, a, b), zx_pk (zK L) 119, r.2, τ, zR)) := by
  unfold zb_M_put_105 at H
  rw [zs_iload_n (ls := [some (.ref 82), some (.int v1), some (.int v2), some (.int v3), o4]) zd_181_105 rfl]
  by_cases c12 : v3 = 0
  · rw [if_pos c12] at H
    rw [zp_if_eq_t (x := v3) (t := 111) zd_181_106 rfl c12]
    rw [zs_aload_n (ls := [some (.ref 82), some (.int v1), some (.int v2), some (.int v3), o4]) zd_181_111 rfl]
    rw [zs_getR (n := 119) (K := zx_pk (zK L) 119) (ρ := zR) (c := 12) (k := 50) (q := 82) (p := 110) zd_181_112 rfl rfl rfl (by decide) rfl]
    rw [zs_iload_n (ls := [some (.ref 82), some (.int v1), some (.int v2), some (.int v3), o4]) zd_181_115 rfl]
    by_cases c13 : 0 ≤ v2 ∧ v2 < 8000
    · rw [if_pos c13] at H
      rw [zp_iaload (n := 119) (K := zx_pk (zK L) 119) (σ := σ) (q := 110) (m := 8000) (i := v2) (k := v2.toNatClampNeg) (v := (σ 110 v2.toNatClampNeg)) zd_181_116 rfl (by decide) (zJ_in c13 rfl) rfl rfl]
      rw [zs_istore_n (x := (σ 110 v2.toNatClampNeg)) (ls' := [some (.ref 82), some (.int v1), some (.int (σ 110 v2.toNatClampNeg)), some (.int v3), o4]) zd_181_117 (Nat.le_of_ble_eq_true rfl) rfl]
      rw [zs_goto (t := 50) zd_181_118 rfl]
      exact hk50 H
    · rw [if_neg c13] at H
      cases H
  · rw [if_neg c12] at H
    rw [zp_if_eq_f (x := v3) (t := 111) zd_181_106 rfl c12]
    rw [zs_iload_n (ls := [some (.ref 82), some (.int v1), some (.int v2), some (.int v3), o4]) zd_181_109 rfl]
    have H := Option.some.inj H
    subst H
    exact zs_ireturn zd_181_110 rfl
set_option maxRecDepth 20000 in
theorem zt_M_put_98 {a b L N : Nat} {k60 : zS → Int32 → Int32 → Int32 → Int32 → Option (Int32 × zS)} (hk60 : ∀ {σ : zS} {τ : zT} {v1 : Int32} {v2 : Int32} {v3 : Int32} {v4 : Int32} {r : Int32 × zS}, k60 σ v1 v2 v3 v4 = some r → zx_go 0 181 60 [some (.ref 82), some (.int v1), some (.int v2), some (.int v3), some (.int v4)] [] ((119, a, b), zx_pk (zK L) 119, σ, τ, zR) = some (some (.int r.1), ((119, a, b), zx_pk (zK L) 119, r.2, τ, zR))) {σ : zS} {τ : zT} {v1 : Int32} {v2 : Int32} {v4 : Int32} {s0 : Int32} {o3 : Option Value} {r : Int32 × zS} (H : zb_M_put_98 k60 N σ v1 v2 v4 s0 = some r) : zx_go 0 181 98 [some (.ref 82), some (.int v1), some (.int v2), o3, some (.int v4)] [.int s0] ((119, a, b), zx_pk (zK L) 119, σ, τ, zR) = some (some (.int r.1), ((119, a, b), zx_pk (zK L) 119, r.2, τ, zR)) := by
  unfold zb_M_put_98 at H
  rw [zs_istore_n (x := s0) (ls' := [some (.ref 82), some (.int v1), some (.int v2), some (.int s0), some (.int v4)]) zd_181_98 (Nat.le_of_ble_eq_true rfl) rfl]
  rw [zs_iinc (ls := [some (.ref 82), some (.int v1), some (.int v2), some (.int s0), some (.int v4)]) (x := v4) (z := (v4 + 1)) (ls' := [some (.ref 82), some (.int v1), some (.int v2), some (.int s0), some (.int (v4 + 1))]) zd_181_99 rfl rfl rfl]
  rw [zs_goto (t := 60) zd_181_102 rfl]
  exact hk60 H
set_option maxRecDepth 20000 in
theorem zt_M_put_60 {a b L N : Nat} {k50 : zS → Int32 → Int32 → Option (Int32 × zS)} (hk50 : ∀ {σ : zS} {τ : zT} {v1 : Int32} {v2 : Int32} {o3 : Option Value} {o4 : Option Value} {r : Int32 × zS}, k50 σ v1 v2 = some r → zx_go 0 181 50 [some (.ref 82), some (.int v1), some (.int v2), o3, o4] [] ((119, a, b), zx_pk (zK L) 119, σ, τ, zR) = some (some (.int r.1), ((119, a, b), zx_pk (zK L) 119, r.2, τ, zR))) : ∀ {n : Nat} {σ : zS} {τ : zT} {v1 : Int32} {v2 : Int32} {v3 : Int32} {v4 : Int32} {r : Int32 × zS}, zb_M_put_60 k50 N n σ v1 v2 v3 v4 = some r → zx_go 0 181 60 [some (.ref 82), some (.int v1), some (.int v2), some (.int v3), some (.int v4)] [] ((119, a, b), zx_pk (zK L) 119, σ, τ, zR) = some (some (.int r.1), ((119, a, b), zx_pk (zK L) 119, r.2, τ, zR)) := by
  intro n
  induction n with
  | zero =>
    intro _ _ _ _ _ _ _ H
    cases H
  | succ n ih =>
    intro σ τ v1 v2 v3 v4 r H
    rw [zb_M_put_60] at H
    rw [zs_iload (ls := [some (.ref 82), some (.int v1), some (.int v2), some (.int v3), some (.int v4)]) zd_181_60 rfl]
    rw [zs_bipush (z := 40) zd_181_62 (by decide)]
    by_cases c11 : 40 ≤ v4
    · rw [if_pos c11] at H
      rw [zp_icmp_ge_t (x := v4) (y := 40) (t := 105) zd_181_64 rfl c11]
      exact zt_M_put_105 (hk50 := hk50) H
    · rw [if_neg c11] at H
      rw [zp_icmp_ge_f (x := v4) (y := 40) (t := 105) zd_181_64 rfl c11]
      rw [zs_iload_n (ls := [some (.ref 82), some (.int v1), some (.int v2), some (.int v3), some (.int v4)]) zd_181_67 rfl]
      by_cases c14 : v3 = 0
      · rw [if_pos c14] at H
        rw [zp_if_eq_t (x := v3) (t := 105) zd_181_68 rfl c14]
        exact zt_M_put_105 (hk50 := hk50) H
      · rw [if_neg c14] at H
        rw [zp_if_eq_f (x := v3) (t := 105) zd_181_68 rfl c14]
        rw [zs_aload_n (ls := [some (.ref 82), some (.int v1), some (.int v2), some (.int v3), some (.int v4)]) zd_181_71 rfl]
        rw [zs_getR (n := 119) (K := zx_pk (zK L) 119) (ρ := zR) (c := 12) (k := 48) (q := 82) (p := 108) zd_181_72 rfl rfl rfl (by decide) rfl]
        rw [zs_bipush (z := 40) zd_181_75 (by decide)]
        rw [zs_iload_n (ls := [some (.ref 82), some (.int v1), some (.int v2), some (.int v3), some (.int v4)]) zd_181_77 rfl]
        rw [zp_imul (x := 40) (y := v2) (z := (40 * v2)) zd_181_78 rfl]
        rw [zs_iload (ls := [some (.ref 82), some (.int v1), some (.int v2), some (.int v3), some (.int v4)]) zd_181_79 rfl]
        rw [zp_iadd (x := (40 * v2)) (y := v4) (z := ((40 * v2) + v4)) zd_181_81 rfl]
        by_cases c15 : 0 ≤ ((40 * v2) + v4) ∧ ((40 * v2) + v4) < 320000
        · rw [if_pos c15] at H
          rw [zp_baload (n := 119) (K := zx_pk (zK L) 119) (σ := σ) (q := 108) (m := 320000) (i := ((40 * v2) + v4)) (k := ((40 * v2) + v4).toNatClampNeg) (v := (σ 108 ((40 * v2) + v4).toNatClampNeg)) zd_181_82 rfl (by decide) (zJ_in c15 rfl) rfl rfl]
          rw [zs_aload_n (ls := [some (.ref 82), some (.int v1), some (.int v2), some (.int v3), some (.int v4)]) zd_181_83 rfl]
          rw [zs_getR (n := 119) (K := zx_pk (zK L) 119) (ρ := zR) (c := 12) (k := 47) (q := 82) (p := 107) zd_181_84 rfl rfl rfl (by decide) rfl]
          rw [zs_iload (ls := [some (.ref 82), some (.int v1), some (.int v2), some (.int v3), some (.int v4)]) zd_181_87 rfl]
          by_cases c16 : 0 ≤ v4 ∧ v4 < 40
          · rw [if_pos c16] at H
            rw [zp_iaload (n := 119) (K := zx_pk (zK L) 119) (σ := σ) (q := 107) (m := 40) (i := v4) (k := v4.toNatClampNeg) (v := (σ 107 v4.toNatClampNeg)) zd_181_89 rfl (by decide) (zJ_in c16 rfl) rfl rfl]
            by_cases c17 : ¬ (σ 108 ((40 * v2) + v4).toNatClampNeg) = (σ 107 v4.toNatClampNeg)
            · rw [if_pos c17] at H
              rw [zp_icmp_ne_t (x := (σ 108 ((40 * v2) + v4).toNatClampNeg)) (y := (σ 107 v4.toNatClampNeg)) (t := 97) zd_181_90 rfl c17]
              rw [zs_iconst (z := 0) zd_181_97 (by decide)]
              exact zt_M_put_98 (hk60 := ih) H
            · rw [if_neg c17] at H
              rw [zp_icmp_ne_f (x := (σ 108 ((40 * v2) + v4).toNatClampNeg)) (y := (σ 107 v4.toNatClampNeg)) (t := 97) zd_181_90 rfl c17]
              rw [zs_iconst (z := 1) zd_181_93 (by decide)]
              rw [zs_goto (t := 98) zd_181_94 rfl]
              exact zt_M_put_98 (hk60 := ih) H
          · rw [if_neg c16] at H
            cases H
        · rw [if_neg c15] at H
          cases H
set_option maxRecDepth 20000 in
theorem zt_M_put_50 {a b L N : Nat} : ∀ {n : Nat} {σ : zS} {τ : zT} {v1 : Int32} {v2 : Int32} {o3 : Option Value} {o4 : Option Value} {r : Int32 × zS}, zb_M_put_50 N n σ v1 v2 = some r → zx_go 0 181 50 [some (.ref 82), some (.int v1), some (.int v2), o3, o4] [] ((119, a, b), zx_pk (zK L) 119, σ, τ, zR) = some (some (.int r.1), ((119, a, b), zx_pk (zK L) 119, r.2, τ, zR)) := by
  intro n
  induction n with
  | zero =>
    intro _ _ _ _ _ _ _ H
    cases H
  | succ n ih =>
    intro σ τ v1 v2 o3 o4 r H
    rw [zb_M_put_50] at H
    rw [zs_iload_n (ls := [some (.ref 82), some (.int v1), some (.int v2), o3, o4]) zd_181_50 rfl]
    rw [zs_iconst (z := (-1)) zd_181_51 (by decide)]
    by_cases c3 : v2 = (-1)
    · rw [if_pos c3] at H
      rw [zp_icmp_eq_t (x := v2) (y := (-1)) (t := 121) zd_181_52 rfl c3]
      rw [zs_aload_n (ls := [some (.ref 82), some (.int v1), some (.int v2), o3, o4]) zd_181_121 rfl]
      rw [zp_getI (n := 119) (K := zx_pk (zK L) 119) (σ := σ) (c := 12) (k := 52) (q := 82) (v := (σ 82 52)) zd_181_122 rfl rfl rfl (by decide) rfl]
      rw [zs_sipush (z := 4000) zd_181_125 (by decide)]
      by_cases c4 : ¬ (σ 82 52) = 4000
      · rw [if_pos c4] at H
        rw [zp_icmp_ne_t (x := (σ 82 52)) (y := 4000) (t := 133) zd_181_128 rfl c4]
        rw [zs_aload_n (ls := [some (.ref 82), some (.int v1), some (.int v2), o3, o4]) zd_181_133 rfl]
        rw [zp_getI (n := 119) (K := zx_pk (zK L) 119) (σ := σ) (c := 12) (k := 51) (q := 82) (v := (σ 82 51)) zd_181_134 rfl rfl rfl (by decide) rfl]
        rw [zs_aload_n (ls := [some (.ref 82), some (.int v1), some (.int v2), o3, o4]) zd_181_137 rfl]
        rw [zp_getI (n := 119) (K := zx_pk (zK L) 119) (σ := σ) (c := 12) (k := 52) (q := 82) (v := (σ 82 52)) zd_181_138 rfl rfl rfl (by decide) rfl]
        rw [zp_iadd (x := (σ 82 51)) (y := (σ 82 52)) (z := ((σ 82 51) + (σ 82 52))) zd_181_141 rfl]
        rw [zs_istore_n (x := ((σ 82 51) + (σ 82 52))) (ls' := [some (.ref 82), some (.int v1), some (.int ((σ 82 51) + (σ 82 52))), o3, o4]) zd_181_142 (Nat.le_of_ble_eq_true rfl) rfl]
        rw [zs_iconst (z := 0) zd_181_143 (by decide)]
        rw [zs_istore_n (x := 0) (ls' := [some (.ref 82), some (.int v1), some (.int ((σ 82 51) + (σ 82 52))), some (.int 0), o4]) zd_181_144 (Nat.le_of_ble_eq_true rfl) rfl]
        exact zt_M_put_145  H
      · rw [if_neg c4] at H
        rw [zp_icmp_ne_f (x := (σ 82 52)) (y := 4000) (t := 133) zd_181_128 rfl c4]
        rw [zs_iconst (z := (-1)) zd_181_131 (by decide)]
        have H := Option.some.inj H
        subst H
        exact zs_ireturn zd_181_132 (by decide +kernel)
    · rw [if_neg c3] at H
      rw [zp_icmp_eq_f (x := v2) (y := (-1)) (t := 121) zd_181_52 rfl c3]
      rw [zs_iconst (z := 1) zd_181_55 (by decide)]
      rw [zs_istore_n (x := 1) (ls' := [some (.ref 82), some (.int v1), some (.int v2), some (.int 1), o4]) zd_181_56 (Nat.le_of_ble_eq_true rfl) rfl]
      rw [zs_iconst (z := 0) zd_181_57 (by decide)]
      rw [zs_istore (x := 0) (ls' := [some (.ref 82), some (.int v1), some (.int v2), some (.int 1), some (.int 0)]) zd_181_58 (Nat.le_of_ble_eq_true rfl) rfl]
      exact zt_M_put_60 (hk50 := ih) H
set_option maxRecDepth 20000 in
theorem zt_M_put_5 {a b L N : Nat} : ∀ {n : Nat} {σ : zS} {τ : zT} {v1 : Int32} {v2 : Int32} {o3 : Option Value} {o4 : Option Value} {r : Int32 × zS}, zb_M_put_5 N n σ v1 v2 = some r → zx_go 0 181 5 [some (.ref 82), some (.int v1), some (.int v2), o3, o4] [] ((119, a, b), zx_pk (zK L) 119, σ, τ, zR) = some (some (.int r.1), ((119, a, b), zx_pk (zK L) 119, r.2, τ, zR)) := by
  intro n
  induction n with
  | zero =>
    intro _ _ _ _ _ _ _ H
    cases H
  | succ n ih =>
    intro σ τ v1 v2 o3 o4 r H
    rw [zb_M_put_5] at H
    rw [zs_iload_n (ls := [some (.ref 82), some (.int v1), some (.int v2), o3, o4]) zd_181_5 rfl]
    rw [zs_bipush (z := 40) zd_181_6 (by decide)]
    by_cases c1 : 40 ≤ v2
    · rw [if_pos c1] at H
      rw [zp_icmp_ge_t (x := v2) (y := 40) (t := 37) zd_181_8 rfl c1]
      rw [zs_iload_n (ls := [some (.ref 82), some (.int v1), some (.int v2), o3, o4]) zd_181_37 rfl]
      rw [zs_sipush (z := 8191) zd_181_38 (by decide)]
      rw [zp_iand (x := v1) (y := 8191) (z := (v1 &&& 8191)) zd_181_41 rfl]
      rw [zs_istore_n (x := (v1 &&& 8191)) (ls' := [some (.ref 82), some (.int (v1 &&& 8191)), some (.int v2), o3, o4]) zd_181_42 (Nat.le_of_ble_eq_true rfl) rfl]
      rw [zs_aload_n (ls := [some (.ref 82), some (.int (v1 &&& 8191)), some (.int v2), o3, o4]) zd_181_43 rfl]
      rw [zs_getR (n := 119) (K := zx_pk (zK L) 119) (ρ := zR) (c := 12) (k := 49) (q := 82) (p := 109) zd_181_44 rfl rfl rfl (by decide) rfl]
      rw [zs_iload_n (ls := [some (.ref 82), some (.int (v1 &&& 8191)), some (.int v2), o3, o4]) zd_181_47 rfl]
      by_cases c2 : 0 ≤ (v1 &&& 8191) ∧ (v1 &&& 8191) < 8192
      · rw [if_pos c2] at H
        rw [zp_iaload (n := 119) (K := zx_pk (zK L) 119) (σ := σ) (q := 109) (m := 8192) (i := (v1 &&& 8191)) (k := (v1 &&& 8191).toNatClampNeg) (v := (σ 109 (v1 &&& 8191).toNatClampNeg)) zd_181_48 rfl (by decide) (zJ_in c2 rfl) rfl rfl]
        rw [zs_istore_n (x := (σ 109 (v1 &&& 8191).toNatClampNeg)) (ls' := [some (.ref 82), some (.int (v1 &&& 8191)), some (.int (σ 109 (v1 &&& 8191).toNatClampNeg)), o3, o4]) zd_181_49 (Nat.le_of_ble_eq_true rfl) rfl]
        exact zt_M_put_50  H
      · rw [if_neg c2] at H
        cases H
    · rw [if_neg c1] at H
      rw [zp_icmp_ge_f (x := v2) (y := 40) (t := 37) zd_181_8 rfl c1]
      rw [zs_iload_n (ls := [some (.ref 82), some (.int v1), some (.int v2), o3, o4]) zd_181_11 rfl]
      rw [zs_aload_n (ls := [some (.ref 82), some (.int v1), some (.int v2), o3, o4]) zd_181_12 rfl]
      rw [zs_getR (n := 119) (K := zx_pk (zK L) 119) (ρ := zR) (c := 12) (k := 47) (q := 82) (p := 107) zd_181_13 rfl rfl rfl (by decide) rfl]
      rw [zs_iload_n (ls := [some (.ref 82), some (.int v1), some (.int v2), o3, o4]) zd_181_16 rfl]
      by_cases c18 : 0 ≤ v2 ∧ v2 < 40
      · rw [if_pos c18] at H
        rw [zp_iaload (n := 119) (K := zx_pk (zK L) 119) (σ := σ) (q := 107) (m := 40) (i := v2) (k := v2.toNatClampNeg) (v := (σ 107 v2.toNatClampNeg)) zd_181_17 rfl (by decide) (zJ_in c18 rfl) rfl rfl]
        rw [zp_ixor (x := v1) (y := (σ 107 v2.toNatClampNeg)) (z := (v1 ^^^ (σ 107 v2.toNatClampNeg))) zd_181_18 rfl]
        rw [zs_ldcw (x := (-1640531535)) zd_181_19 rfl]
        rw [zp_imul (x := (v1 ^^^ (σ 107 v2.toNatClampNeg))) (y := (-1640531535)) (z := ((v1 ^^^ (σ 107 v2.toNatClampNeg)) * (-1640531535))) zd_181_22 rfl]
        rw [zs_istore_n (x := ((v1 ^^^ (σ 107 v2.toNatClampNeg)) * (-1640531535))) (ls' := [some (.ref 82), some (.int ((v1 ^^^ (σ 107 v2.toNatClampNeg)) * (-1640531535))), some (.int v2), o3, o4]) zd_181_23 (Nat.le_of_ble_eq_true rfl) rfl]
        rw [zs_iload_n (ls := [some (.ref 82), some (.int ((v1 ^^^ (σ 107 v2.toNatClampNeg)) * (-1640531535))), some (.int v2), o3, o4]) zd_181_24 rfl]
        rw [zs_iload_n (ls := [some (.ref 82), some (.int ((v1 ^^^ (σ 107 v2.toNatClampNeg)) * (-1640531535))), some (.int v2), o3, o4]) zd_181_25 rfl]
        rw [zs_bipush (z := 15) zd_181_26 (by decide)]
        rw [zp_iushr (x := ((v1 ^^^ (σ 107 v2.toNatClampNeg)) * (-1640531535))) (y := 15) (z := (zJ_ushr ((v1 ^^^ (σ 107 v2.toNatClampNeg)) * (-1640531535)) 15)) zd_181_28 rfl]
        rw [zp_ixor (x := ((v1 ^^^ (σ 107 v2.toNatClampNeg)) * (-1640531535))) (y := (zJ_ushr ((v1 ^^^ (σ 107 v2.toNatClampNeg)) * (-1640531535)) 15)) (z := (((v1 ^^^ (σ 107 v2.toNatClampNeg)) * (-1640531535)) ^^^ (zJ_ushr ((v1 ^^^ (σ 107 v2.toNatClampNeg)) * (-1640531535)) 15))) zd_181_29 rfl]
        rw [zs_istore_n (x := (((v1 ^^^ (σ 107 v2.toNatClampNeg)) * (-1640531535)) ^^^ (zJ_ushr ((v1 ^^^ (σ 107 v2.toNatClampNeg)) * (-1640531535)) 15))) (ls' := [some (.ref 82), some (.int (((v1 ^^^ (σ 107 v2.toNatClampNeg)) * (-1640531535)) ^^^ (zJ_ushr ((v1 ^^^ (σ 107 v2.toNatClampNeg)) * (-1640531535)) 15))), some (.int v2), o3, o4]) zd_181_30 (Nat.le_of_ble_eq_true rfl) rfl]
        rw [zs_iinc (ls := [some (.ref 82), some (.int (((v1 ^^^ (σ 107 v2.toNatClampNeg)) * (-1640531535)) ^^^ (zJ_ushr ((v1 ^^^ (σ 107 v2.toNatClampNeg)) * (-1640531535)) 15))), some (.int v2), o3, o4]) (x := v2) (z := (v2 + 1)) (ls' := [some (.ref 82), some (.int (((v1 ^^^ (σ 107 v2.toNatClampNeg)) * (-1640531535)) ^^^ (zJ_ushr ((v1 ^^^ (σ 107 v2.toNatClampNeg)) * (-1640531535)) 15))), some (.int (v2 + 1)), o3, o4]) zd_181_31 rfl rfl rfl]
        rw [zs_goto (t := 5) zd_181_34 rfl]
        exact ih H
      · rw [if_neg c18] at H
        cases H
set_option maxRecDepth 20000 in
theorem zt_M_put {a b L N : Nat} {σ : zS} {τ : zT} {r : Int32 × zS} (H : zf_M_put N σ = some r) : zx_go 0 181 0 [some (.ref 82), none, none, none, none] [] ((119, a, b), zx_pk (zK L) 119, σ, τ, zR) = some (some (.int r.1), ((119, a, b), zx_pk (zK L) 119, r.2, τ, zR)) := by
  unfold zf_M_put at H
  rw [zs_bipush (z := 7) zd_181_0 (by decide)]
  rw [zs_istore_n (x := 7) (ls' := [some (.ref 82), some (.int 7), none, none, none]) zd_181_2 (Nat.le_of_ble_eq_true rfl) rfl]
  rw [zs_iconst (z := 0) zd_181_3 (by decide)]
  rw [zs_istore_n (x := 0) (ls' := [some (.ref 82), some (.int 7), some (.int 0), none, none]) zd_181_4 (Nat.le_of_ble_eq_true rfl) rfl]
  exact zt_M_put_5  H
set_option maxRecDepth 20000 in
theorem zt_M_load_2 {a b L N : Nat} : ∀ {n : Nat} {σ : zS} {τ : zT} {v1 : Int32} {v2 : Int32} {r : zS}, zb_M_load_2 N n σ v1 v2 = some r → zx_go 0 182 2 [some (.ref 82), some (.int v1), some (.int v2)] [] ((119, a, b), zx_pk (zK L) 119, σ, τ, zR) = some (none, ((119, a, b), zx_pk (zK L) 119, r, τ, zR)) := by
  intro n
  induction n with
  | zero =>
    intro _ _ _ _ _ H
    cases H
  | succ n ih =>
    intro σ τ v1 v2 r H
    rw [zb_M_load_2] at H
    rw [zs_iload_n (ls := [some (.ref 82), some (.int v1), some (.int v2)]) zd_182_2 rfl]
    rw [zs_bipush (z := 40) zd_182_3 (by decide)]
    by_cases c1 : 40 ≤ v2
    · rw [if_pos c1] at H
      rw [zp_icmp_ge_t (x := v2) (y := 40) (t := 31) zd_182_5 rfl c1]
      have H := Option.some.inj H
      subst H
      exact zs_return zd_182_31 (by decide +kernel)
    · rw [if_neg c1] at H
      rw [zp_icmp_ge_f (x := v2) (y := 40) (t := 31) zd_182_5 rfl c1]
      rw [zs_aload_n (ls := [some (.ref 82), some (.int v1), some (.int v2)]) zd_182_8 rfl]
      rw [zs_getR (n := 119) (K := zx_pk (zK L) 119) (ρ := zR) (c := 12) (k := 47) (q := 82) (p := 107) zd_182_9 rfl rfl rfl (by decide) rfl]
      rw [zs_iload_n (ls := [some (.ref 82), some (.int v1), some (.int v2)]) zd_182_12 rfl]
      rw [zs_aload_n (ls := [some (.ref 82), some (.int v1), some (.int v2)]) zd_182_13 rfl]
      rw [zs_getR (n := 119) (K := zx_pk (zK L) 119) (ρ := zR) (c := 12) (k := 48) (q := 82) (p := 108) zd_182_14 rfl rfl rfl (by decide) rfl]
      rw [zs_bipush (z := 40) zd_182_17 (by decide)]
      rw [zs_iload_n (ls := [some (.ref 82), some (.int v1), some (.int v2)]) zd_182_19 rfl]
      rw [zp_imul (x := 40) (y := v1) (z := (40 * v1)) zd_182_20 rfl]
      rw [zs_iload_n (ls := [some (.ref 82), some (.int v1), some (.int v2)]) zd_182_21 rfl]
      rw [zp_iadd (x := (40 * v1)) (y := v2) (z := ((40 * v1) + v2)) zd_182_22 rfl]
      by_cases c2 : 0 ≤ ((40 * v1) + v2) ∧ ((40 * v1) + v2) < 320000
      · rw [if_pos c2] at H
        rw [zp_baload (n := 119) (K := zx_pk (zK L) 119) (σ := σ) (q := 108) (m := 320000) (i := ((40 * v1) + v2)) (k := ((40 * v1) + v2).toNatClampNeg) (v := (σ 108 ((40 * v1) + v2).toNatClampNeg)) zd_182_23 rfl (by decide) (zJ_in c2 rfl) rfl rfl]
        by_cases c3 : 0 ≤ v2 ∧ v2 < 40
        · rw [if_pos c3] at H
          rw [zp_iastore (n := 119) (K := zx_pk (zK L) 119) (q := 107) (m := 40) (i := v2) (k := v2.toNatClampNeg) (x := (σ 108 ((40 * v1) + v2).toNatClampNeg)) (z := (σ 108 ((40 * v1) + v2).toNatClampNeg)) zd_182_24 rfl ⟨by decide, by decide⟩ (zJ_in c3 rfl) rfl rfl]
          rw [zs_iinc (ls := [some (.ref 82), some (.int v1), some (.int v2)]) (x := v2) (z := (v2 + 1)) (ls' := [some (.ref 82), some (.int v1), some (.int (v2 + 1))]) zd_182_25 rfl rfl rfl]
          rw [zs_goto (t := 2) zd_182_28 rfl]
          exact ih H
        · rw [if_neg c3] at H
          cases H
      · rw [if_neg c2] at H
        cases H
set_option maxRecDepth 20000 in
theorem zt_M_load {a b L N : Nat} {σ : zS} {τ : zT} {x1 : Int32} {r : zS} (H : zf_M_load N σ x1 = some r) : zx_go 0 182 0 [some (.ref 82), some (.int x1), none] [] ((119, a, b), zx_pk (zK L) 119, σ, τ, zR) = some (none, ((119, a, b), zx_pk (zK L) 119, r, τ, zR)) := by
  unfold zf_M_load at H
  rw [zs_iconst (z := 0) zd_182_0 (by decide)]
  rw [zs_istore_n (x := 0) (ls' := [some (.ref 82), some (.int x1), some (.int 0)]) zd_182_1 (Nat.le_of_ble_eq_true rfl) rfl]
  exact zt_M_load_2  H
set_option maxRecDepth 20000 in
theorem zt_M_stateOf {a b L : Nat} {σ : zS} {τ : zT} {x1 : Int32} {r : Int32} (H : zf_M_stateOf σ x1 = some r) : zx_go 1 184 0 [some (.ref 82), some (.int x1)] [] ((119, a, b), zx_pk (zK L) 119, σ, τ, zR) = some (some (.int r), ((119, a, b), zx_pk (zK L) 119, σ, τ, zR)) := by
  unfold zf_M_stateOf at H
  rw [zs_aload_n (ls := [some (.ref 82), some (.int x1)]) zd_184_0 rfl]
  rw [zs_getR (n := 119) (K := zx_pk (zK L) 119) (ρ := zR) (c := 12) (k := 47) (q := 82) (p := 107) zd_184_1 rfl rfl rfl (by decide) rfl]
  rw [zs_aload_n (ls := [some (.ref 82), some (.int x1)]) zd_184_4 rfl]
  rw [zs_iload_n (ls := [some (.ref 82), some (.int x1)]) zd_184_5 rfl]
  obtain ⟨r1, hr1, H⟩ := Option.bind_eq_some_iff.mp H
  rw [zp_callVi (x := r1) (st := [.int x1, .ref 82, .ref 107]) (as := [.ref 82, .int x1]) (rest := [.ref 107]) (e := 0) zd_184_6 rfl (by decide +kernel) (by decide) rfl rfl (Nat.le_of_ble_eq_true rfl) (zx_rcb_ok rfl (show 82 < 119 by decide)) (Nat.le_of_ble_eq_true rfl) rfl (by decide) (zt_M_at hr1)]
  rw [zs_iconst (z := 1) zd_184_9 (by decide)]
  rw [zp_iadd (x := r1) (y := 1) (z := (r1 + 1)) zd_184_10 rfl]
  by_cases c2 : 0 ≤ (r1 + 1) ∧ (r1 + 1) < 40
  · rw [if_pos c2] at H
    rw [zp_iaload (n := 119) (K := zx_pk (zK L) 119) (σ := σ) (q := 107) (m := 40) (i := (r1 + 1)) (k := (r1 + 1).toNatClampNeg) (v := (σ 107 (r1 + 1).toNatClampNeg)) zd_184_11 rfl (by decide) (zJ_in c2 rfl) rfl rfl]
    have H := Option.some.inj H
    subst H
    exact zs_ireturn zd_184_12 rfl
  · rw [if_neg c2] at H
    cases H
set_option maxRecDepth 20000 in
theorem zt_M_touches_19 {a b L : Nat} {σ : zS} {τ : zT} {o0 : Option Value} {o1 : Option Value} {r : Int32} (H : zb_M_touches_19 σ = some r) : zx_go 0 186 19 [o0, o1] [] ((119, a, b), zx_pk (zK L) 119, σ, τ, zR) = some (some (.int r), ((119, a, b), zx_pk (zK L) 119, σ, τ, zR)) := by
  unfold zb_M_touches_19 at H
  rw [zs_iconst (z := 1) zd_186_19 (by decide)]
  rw [zs_goto (t := 24) zd_186_20 rfl]
  have H := Option.some.inj H
  subst H
  exact zs_ireturn zd_186_24 (by decide +kernel)
set_option maxRecDepth 20000 in
theorem zt_M_touches {a b L : Nat} {σ : zS} {τ : zT} {x1 : Int32} {r : Int32} (H : zf_M_touches σ x1 = some r) : zx_go 0 186 0 [some (.ref 82), some (.int x1)] [] ((119, a, b), zx_pk (zK L) 119, σ, τ, zR) = some (some (.int r), ((119, a, b), zx_pk (zK L) 119, σ, τ, zR)) := by
  unfold zf_M_touches at H
  rw [zs_aload_n (ls := [some (.ref 82), some (.int x1)]) zd_186_0 rfl]
  rw [zs_getR (n := 119) (K := zx_pk (zK L) 119) (ρ := zR) (c := 12) (k := 27) (q := 82) (p := 92) zd_186_1 rfl rfl rfl (by decide) rfl]
  rw [zs_iload_n (ls := [some (.ref 82), some (.int x1)]) zd_186_4 rfl]
  by_cases c1 : 0 ≤ x1 ∧ x1 < 96
  · rw [if_pos c1] at H
    rw [zp_iaload (n := 119) (K := zx_pk (zK L) 119) (σ := σ) (q := 92) (m := 96) (i := x1) (k := x1.toNatClampNeg) (v := (σ 92 x1.toNatClampNeg)) zd_186_5 rfl (by decide) (zJ_in c1 rfl) rfl rfl]
    by_cases c2 : (σ 92 x1.toNatClampNeg) = 0
    · rw [if_pos c2] at H
      rw [zp_if_eq_t (x := (σ 92 x1.toNatClampNeg)) (t := 19) zd_186_6 rfl c2]
      exact zt_M_touches_19  H
    · rw [if_neg c2] at H
      rw [zp_if_eq_f (x := (σ 92 x1.toNatClampNeg)) (t := 19) zd_186_6 rfl c2]
      rw [zs_aload_n (ls := [some (.ref 82), some (.int x1)]) zd_186_9 rfl]
      rw [zs_getR (n := 119) (K := zx_pk (zK L) 119) (ρ := zR) (c := 12) (k := 27) (q := 82) (p := 92) zd_186_10 rfl rfl rfl (by decide) rfl]
      rw [zs_iload_n (ls := [some (.ref 82), some (.int x1)]) zd_186_13 rfl]
      by_cases c3 : 0 ≤ x1 ∧ x1 < 96
      · rw [if_pos c3] at H
        rw [zp_iaload (n := 119) (K := zx_pk (zK L) 119) (σ := σ) (q := 92) (m := 96) (i := x1) (k := x1.toNatClampNeg) (v := (σ 92 x1.toNatClampNeg)) zd_186_14 rfl (by decide) (zJ_in c3 rfl) rfl rfl]
        rw [zs_iconst (z := 1) zd_186_15 (by decide)]
        by_cases c4 : ¬ (σ 92 x1.toNatClampNeg) = 1
        · rw [if_pos c4] at H
          rw [zp_icmp_ne_t (x := (σ 92 x1.toNatClampNeg)) (y := 1) (t := 23) zd_186_16 rfl c4]
          rw [zs_iconst (z := 0) zd_186_23 (by decide)]
          have H := Option.some.inj H
          subst H
          exact zs_ireturn zd_186_24 (by decide +kernel)
        · rw [if_neg c4] at H
          rw [zp_icmp_ne_f (x := (σ 92 x1.toNatClampNeg)) (y := 1) (t := 23) zd_186_16 rfl c4]
          exact zt_M_touches_19  H
      · rw [if_neg c3] at H
        cases H
  · rw [if_neg c1] at H
    cases H
set_option maxRecDepth 20000 in
theorem zt_M_wouldRace_65 {a b L : Nat} {σ : zS} {τ : zT} {o0 : Option Value} {o1 : Option Value} {o2 : Option Value} {r : Int32} (H : zb_M_wouldRace_65 σ = some r) : zx_go 1 185 65 [o0, o1, o2] [] ((119, a, b), zx_pk (zK L) 119, σ, τ, zR) = some (some (.int r), ((119, a, b), zx_pk (zK L) 119, σ, τ, zR)) := by
  unfold zb_M_wouldRace_65 at H
  rw [zs_iconst (z := 1) zd_185_65 (by decide)]
  rw [zs_goto (t := 70) zd_185_66 rfl]
  have H := Option.some.inj H
  subst H
  exact zs_ireturn zd_185_70 (by decide +kernel)
set_option maxRecDepth 20000 in
theorem zt_M_wouldRace {a b L : Nat} {σ : zS} {τ : zT} {x1 : Int32} {x2 : Int32} {r : Int32} (H : zf_M_wouldRace σ x1 x2 = some r) : zx_go 1 185 0 [some (.ref 82), some (.int x1), some (.int x2)] [] ((119, a, b), zx_pk (zK L) 119, σ, τ, zR) = some (some (.int r), ((119, a, b), zx_pk (zK L) 119, σ, τ, zR)) := by
  unfold zf_M_wouldRace at H
  rw [zs_aload_n (ls := [some (.ref 82), some (.int x1), some (.int x2)]) zd_185_0 rfl]
  rw [zs_iload_n (ls := [some (.ref 82), some (.int x1), some (.int x2)]) zd_185_1 rfl]
  obtain ⟨r1, hr1, H⟩ := Option.bind_eq_some_iff.mp H
  rw [zp_callVi (x := r1) (st := [.int x1, .ref 82]) (as := [.ref 82, .int x1]) (rest := []) (e := 0) zd_185_2 rfl (by decide +kernel) (by decide) rfl rfl (Nat.le_of_ble_eq_true rfl) (zx_rcb_ok rfl (show 82 < 119 by decide)) (Nat.le_of_ble_eq_true rfl) rfl (by decide) (zt_M_touches hr1)]
  by_cases c2 : r1 = 0
  · rw [if_pos c2] at H
    rw [zp_if_eq_t (x := r1) (t := 69) zd_185_5 rfl c2]
    rw [zs_iconst (z := 0) zd_185_69 (by decide)]
    have H := Option.some.inj H
    subst H
    exact zs_ireturn zd_185_70 (by decide +kernel)
  · rw [if_neg c2] at H
    rw [zp_if_eq_f (x := r1) (t := 69) zd_185_5 rfl c2]
    rw [zs_aload_n (ls := [some (.ref 82), some (.int x1), some (.int x2)]) zd_185_8 rfl]
    rw [zs_iload_n (ls := [some (.ref 82), some (.int x1), some (.int x2)]) zd_185_9 rfl]
    obtain ⟨r3, hr3, H⟩ := Option.bind_eq_some_iff.mp H
    rw [zp_callVi (x := r3) (st := [.int x2, .ref 82]) (as := [.ref 82, .int x2]) (rest := []) (e := 0) zd_185_10 rfl (by decide +kernel) (by decide) rfl rfl (Nat.le_of_ble_eq_true rfl) (zx_rcb_ok rfl (show 82 < 119 by decide)) (Nat.le_of_ble_eq_true rfl) rfl (by decide) (zt_M_touches hr3)]
    by_cases c4 : r3 = 0
    · rw [if_pos c4] at H
      rw [zp_if_eq_t (x := r3) (t := 69) zd_185_13 rfl c4]
      rw [zs_iconst (z := 0) zd_185_69 (by decide)]
      have H := Option.some.inj H
      subst H
      exact zs_ireturn zd_185_70 (by decide +kernel)
    · rw [if_neg c4] at H
      rw [zp_if_eq_f (x := r3) (t := 69) zd_185_13 rfl c4]
      rw [zs_aload_n (ls := [some (.ref 82), some (.int x1), some (.int x2)]) zd_185_16 rfl]
      rw [zs_getR (n := 119) (K := zx_pk (zK L) 119) (ρ := zR) (c := 12) (k := 28) (q := 82) (p := 93) zd_185_17 rfl rfl rfl (by decide) rfl]
      rw [zs_iload_n (ls := [some (.ref 82), some (.int x1), some (.int x2)]) zd_185_20 rfl]
      by_cases c5 : 0 ≤ x1 ∧ x1 < 96
      · rw [if_pos c5] at H
        rw [zp_iaload (n := 119) (K := zx_pk (zK L) 119) (σ := σ) (q := 93) (m := 96) (i := x1) (k := x1.toNatClampNeg) (v := (σ 93 x1.toNatClampNeg)) zd_185_21 rfl (by decide) (zJ_in c5 rfl) rfl rfl]
        rw [zs_aload_n (ls := [some (.ref 82), some (.int x1), some (.int x2)]) zd_185_22 rfl]
        rw [zs_getR (n := 119) (K := zx_pk (zK L) 119) (ρ := zR) (c := 12) (k := 28) (q := 82) (p := 93) zd_185_23 rfl rfl rfl (by decide) rfl]
        rw [zs_iload_n (ls := [some (.ref 82), some (.int x1), some (.int x2)]) zd_185_26 rfl]
        by_cases c6 : 0 ≤ x2 ∧ x2 < 96
        · rw [if_pos c6] at H
          rw [zp_iaload (n := 119) (K := zx_pk (zK L) 119) (σ := σ) (q := 93) (m := 96) (i := x2) (k := x2.toNatClampNeg) (v := (σ 93 x2.toNatClampNeg)) zd_185_27 rfl (by decide) (zJ_in c6 rfl) rfl rfl]
          by_cases c7 : ¬ (σ 93 x1.toNatClampNeg) = (σ 93 x2.toNatClampNeg)
          · rw [if_pos c7] at H
            rw [zp_icmp_ne_t (x := (σ 93 x1.toNatClampNeg)) (y := (σ 93 x2.toNatClampNeg)) (t := 69) zd_185_28 rfl c7]
            rw [zs_iconst (z := 0) zd_185_69 (by decide)]
            have H := Option.some.inj H
            subst H
            exact zs_ireturn zd_185_70 (by decide +kernel)
          · rw [if_neg c7] at H
            rw [zp_icmp_ne_f (x := (σ 93 x1.toNatClampNeg)) (y := (σ 93 x2.toNatClampNeg)) (t := 69) zd_185_28 rfl c7]
            rw [zs_aload_n (ls := [some (.ref 82), some (.int x1), some (.int x2)]) zd_185_31 rfl]
            rw [zs_getR (n := 119) (K := zx_pk (zK L) 119) (ρ := zR) (c := 12) (k := 22) (q := 82) (p := 88) zd_185_32 rfl rfl rfl (by decide) rfl]
            rw [zs_aload_n (ls := [some (.ref 82), some (.int x1), some (.int x2)]) zd_185_35 rfl]
            rw [zs_getR (n := 119) (K := zx_pk (zK L) 119) (ρ := zR) (c := 12) (k := 28) (q := 82) (p := 93) zd_185_36 rfl rfl rfl (by decide) rfl]
            rw [zs_iload_n (ls := [some (.ref 82), some (.int x1), some (.int x2)]) zd_185_39 rfl]
            by_cases c8 : 0 ≤ x1 ∧ x1 < 96
            · rw [if_pos c8] at H
              rw [zp_iaload (n := 119) (K := zx_pk (zK L) 119) (σ := σ) (q := 93) (m := 96) (i := x1) (k := x1.toNatClampNeg) (v := (σ 93 x1.toNatClampNeg)) zd_185_40 rfl (by decide) (zJ_in c8 rfl) rfl rfl]
              by_cases c9 : 0 ≤ (σ 93 x1.toNatClampNeg) ∧ (σ 93 x1.toNatClampNeg) < 6
              · rw [if_pos c9] at H
                rw [zp_zaload (n := 119) (K := zx_pk (zK L) 119) (σ := σ) (q := 88) (m := 6) (i := (σ 93 x1.toNatClampNeg)) (k := (σ 93 x1.toNatClampNeg).toNatClampNeg) (v := (σ 88 (σ 93 x1.toNatClampNeg).toNatClampNeg)) zd_185_41 rfl (by decide) (zJ_in c9 rfl) rfl rfl]
                by_cases c10 : ¬ (σ 88 (σ 93 x1.toNatClampNeg).toNatClampNeg) = 0
                · rw [if_pos c10] at H
                  rw [zp_if_ne_t (x := (σ 88 (σ 93 x1.toNatClampNeg).toNatClampNeg)) (t := 69) zd_185_42 rfl c10]
                  rw [zs_iconst (z := 0) zd_185_69 (by decide)]
                  have H := Option.some.inj H
                  subst H
                  exact zs_ireturn zd_185_70 (by decide +kernel)
                · rw [if_neg c10] at H
                  rw [zp_if_ne_f (x := (σ 88 (σ 93 x1.toNatClampNeg).toNatClampNeg)) (t := 69) zd_185_42 rfl c10]
                  rw [zs_aload_n (ls := [some (.ref 82), some (.int x1), some (.int x2)]) zd_185_45 rfl]
                  rw [zs_getR (n := 119) (K := zx_pk (zK L) 119) (ρ := zR) (c := 12) (k := 27) (q := 82) (p := 92) zd_185_46 rfl rfl rfl (by decide) rfl]
                  rw [zs_iload_n (ls := [some (.ref 82), some (.int x1), some (.int x2)]) zd_185_49 rfl]
                  by_cases c11 : 0 ≤ x1 ∧ x1 < 96
                  · rw [if_pos c11] at H
                    rw [zp_iaload (n := 119) (K := zx_pk (zK L) 119) (σ := σ) (q := 92) (m := 96) (i := x1) (k := x1.toNatClampNeg) (v := (σ 92 x1.toNatClampNeg)) zd_185_50 rfl (by decide) (zJ_in c11 rfl) rfl rfl]
                    rw [zs_iconst (z := 1) zd_185_51 (by decide)]
                    by_cases c12 : (σ 92 x1.toNatClampNeg) = 1
                    · rw [if_pos c12] at H
                      rw [zp_icmp_eq_t (x := (σ 92 x1.toNatClampNeg)) (y := 1) (t := 65) zd_185_52 rfl c12]
                      exact zt_M_wouldRace_65  H
                    · rw [if_neg c12] at H
                      rw [zp_icmp_eq_f (x := (σ 92 x1.toNatClampNeg)) (y := 1) (t := 65) zd_185_52 rfl c12]
                      rw [zs_aload_n (ls := [some (.ref 82), some (.int x1), some (.int x2)]) zd_185_55 rfl]
                      rw [zs_getR (n := 119) (K := zx_pk (zK L) 119) (ρ := zR) (c := 12) (k := 27) (q := 82) (p := 92) zd_185_56 rfl rfl rfl (by decide) rfl]
                      rw [zs_iload_n (ls := [some (.ref 82), some (.int x1), some (.int x2)]) zd_185_59 rfl]
                      by_cases c13 : 0 ≤ x2 ∧ x2 < 96
                      · rw [if_pos c13] at H
                        rw [zp_iaload (n := 119) (K := zx_pk (zK L) 119) (σ := σ) (q := 92) (m := 96) (i := x2) (k := x2.toNatClampNeg) (v := (σ 92 x2.toNatClampNeg)) zd_185_60 rfl (by decide) (zJ_in c13 rfl) rfl rfl]
                        rw [zs_iconst (z := 1) zd_185_61 (by decide)]
                        by_cases c14 : ¬ (σ 92 x2.toNatClampNeg) = 1
                        · rw [if_pos c14] at H
                          rw [zp_icmp_ne_t (x := (σ 92 x2.toNatClampNeg)) (y := 1) (t := 69) zd_185_62 rfl c14]
                          rw [zs_iconst (z := 0) zd_185_69 (by decide)]
                          have H := Option.some.inj H
                          subst H
                          exact zs_ireturn zd_185_70 (by decide +kernel)
                        · rw [if_neg c14] at H
                          rw [zp_icmp_ne_f (x := (σ 92 x2.toNatClampNeg)) (y := 1) (t := 69) zd_185_62 rfl c14]
                          exact zt_M_wouldRace_65  H
                      · rw [if_neg c13] at H
                        cases H
                  · rw [if_neg c11] at H
                    cases H
              · rw [if_neg c9] at H
                cases H
            · rw [if_neg c8] at H
              cases H
        · rw [if_neg c6] at H
          cases H
      · rw [if_neg c5] at H
        cases H
set_option maxRecDepth 20000 in
theorem zt_M_lookForRaces_115 {a b L N : Nat} {k14 : zS → Int32 → Int32 → Int32 → Option (zS)} (hk14 : ∀ {σ : zS} {τ : zT} {v1 : Int32} {v2 : Int32} {v3 : Int32} {o4 : Option Value} {o5 : Option Value} {o6 : Option Value} {r : zS}, k14 σ v1 v2 v3 = some r → zx_go 2 183 14 [some (.ref 82), some (.int v1), some (.int v2), some (.int v3), o4, o5, o6] [] ((119, a, b), zx_pk (zK L) 119, σ, τ, zR) = some (none, ((119, a, b), zx_pk (zK L) 119, r, τ, zR))) {σ : zS} {τ : zT} {v1 : Int32} {v2 : Int32} {v3 : Int32} {o4 : Option Value} {o5 : Option Value} {o6 : Option Value} {r : zS} (H : zb_M_lookForRaces_115 k14 N σ v1 v2 v3 = some r) : zx_go 2 183 115 [some (.ref 82), some (.int v1), some (.int v2), some (.int v3), o4, o5, o6] [] ((119, a, b), zx_pk (zK L) 119, σ, τ, zR) = some (none, ((119, a, b), zx_pk (zK L) 119, r, τ, zR)) := by
  unfold zb_M_lookForRaces_115 at H
  rw [zs_iinc (ls := [some (.ref 82), some (.int v1), some (.int v2), some (.int v3), o4, o5, o6]) (x := v3) (z := (v3 + 1)) (ls' := [some (.ref 82), some (.int v1), some (.int v2), some (.int (v3 + 1)), o4, o5, o6]) zd_183_115 rfl rfl rfl]
  rw [zs_goto (t := 14) zd_183_118 rfl]
  exact hk14 H
set_option maxRecDepth 20000 in
theorem zt_M_lookForRaces_14 {a b L N : Nat} {k2 : zS → Int32 → Int32 → Option (zS)} (hk2 : ∀ {σ : zS} {τ : zT} {v1 : Int32} {v2 : Int32} {o3 : Option Value} {o4 : Option Value} {o5 : Option Value} {o6 : Option Value} {r : zS}, k2 σ v1 v2 = some r → zx_go 2 183 2 [some (.ref 82), some (.int v1), some (.int v2), o3, o4, o5, o6] [] ((119, a, b), zx_pk (zK L) 119, σ, τ, zR) = some (none, ((119, a, b), zx_pk (zK L) 119, r, τ, zR))) : ∀ {n : Nat} {σ : zS} {τ : zT} {v1 : Int32} {v2 : Int32} {v3 : Int32} {o4 : Option Value} {o5 : Option Value} {o6 : Option Value} {r : zS}, zb_M_lookForRaces_14 k2 N n σ v1 v2 v3 = some r → zx_go 2 183 14 [some (.ref 82), some (.int v1), some (.int v2), some (.int v3), o4, o5, o6] [] ((119, a, b), zx_pk (zK L) 119, σ, τ, zR) = some (none, ((119, a, b), zx_pk (zK L) 119, r, τ, zR)) := by
  intro n
  induction n with
  | zero =>
    intro _ _ _ _ _ _ _ _ _ H
    cases H
  | succ n ih =>
    intro σ τ v1 v2 v3 o4 o5 o6 r H
    rw [zb_M_lookForRaces_14] at H
    rw [zs_iload_n (ls := [some (.ref 82), some (.int v1), some (.int v2), some (.int v3), o4, o5, o6]) zd_183_14 rfl]
    rw [zs_aload_n (ls := [some (.ref 82), some (.int v1), some (.int v2), some (.int v3), o4, o5, o6]) zd_183_15 rfl]
    rw [zp_getI (n := 119) (K := zx_pk (zK L) 119) (σ := σ) (c := 12) (k := 17) (q := 82) (v := (σ 82 17)) zd_183_16 rfl rfl rfl (by decide) rfl]
    by_cases c2 : (σ 82 17) ≤ v3
    · rw [if_pos c2] at H
      rw [zp_icmp_ge_t (x := v3) (y := (σ 82 17)) (t := 121) zd_183_19 rfl c2]
      rw [zs_iinc (ls := [some (.ref 82), some (.int v1), some (.int v2), some (.int v3), o4, o5, o6]) (x := v2) (z := (v2 + 1)) (ls' := [some (.ref 82), some (.int v1), some (.int (v2 + 1)), some (.int v3), o4, o5, o6]) zd_183_121 rfl rfl rfl]
      rw [zs_goto (t := 2) zd_183_124 rfl]
      exact hk2 H
    · rw [if_neg c2] at H
      rw [zp_icmp_ge_f (x := v3) (y := (σ 82 17)) (t := 121) zd_183_19 rfl c2]
      rw [zs_aload_n (ls := [some (.ref 82), some (.int v1), some (.int v2), some (.int v3), o4, o5, o6]) zd_183_22 rfl]
      rw [zs_iload_n (ls := [some (.ref 82), some (.int v1), some (.int v2), some (.int v3), o4, o5, o6]) zd_183_23 rfl]
      obtain ⟨r3, hr3, H⟩ := Option.bind_eq_some_iff.mp H
      rw [zp_callVi (x := r3) (st := [.int v2, .ref 82]) (as := [.ref 82, .int v2]) (rest := []) (e := 1) zd_183_24 rfl (by decide +kernel) (by decide) rfl rfl (Nat.le_of_ble_eq_true rfl) (zx_rcb_ok rfl (show 82 < 119 by decide)) (Nat.le_of_ble_eq_true rfl) rfl (by decide) (zt_M_stateOf hr3)]
      rw [zs_iconst (z := 1) zd_183_27 (by decide)]
      by_cases c4 : ¬ r3 = 1
      · rw [if_pos c4] at H
        rw [zp_icmp_ne_t (x := r3) (y := 1) (t := 115) zd_183_28 rfl c4]
        exact zt_M_lookForRaces_115 (hk14 := ih) H
      · rw [if_neg c4] at H
        rw [zp_icmp_ne_f (x := r3) (y := 1) (t := 115) zd_183_28 rfl c4]
        rw [zs_aload_n (ls := [some (.ref 82), some (.int v1), some (.int v2), some (.int v3), o4, o5, o6]) zd_183_31 rfl]
        rw [zs_iload_n (ls := [some (.ref 82), some (.int v1), some (.int v2), some (.int v3), o4, o5, o6]) zd_183_32 rfl]
        obtain ⟨r5, hr5, H⟩ := Option.bind_eq_some_iff.mp H
        rw [zp_callVi (x := r5) (st := [.int v3, .ref 82]) (as := [.ref 82, .int v3]) (rest := []) (e := 1) zd_183_33 rfl (by decide +kernel) (by decide) rfl rfl (Nat.le_of_ble_eq_true rfl) (zx_rcb_ok rfl (show 82 < 119 by decide)) (Nat.le_of_ble_eq_true rfl) rfl (by decide) (zt_M_stateOf hr5)]
        rw [zs_iconst (z := 1) zd_183_36 (by decide)]
        by_cases c6 : ¬ r5 = 1
        · rw [if_pos c6] at H
          rw [zp_icmp_ne_t (x := r5) (y := 1) (t := 115) zd_183_37 rfl c6]
          exact zt_M_lookForRaces_115 (hk14 := ih) H
        · rw [if_neg c6] at H
          rw [zp_icmp_ne_f (x := r5) (y := 1) (t := 115) zd_183_37 rfl c6]
          rw [zs_bipush (z := 24) zd_183_40 (by decide)]
          rw [zs_iload_n (ls := [some (.ref 82), some (.int v1), some (.int v2), some (.int v3), o4, o5, o6]) zd_183_42 rfl]
          rw [zp_imul (x := 24) (y := v2) (z := (24 * v2)) zd_183_43 rfl]
          rw [zs_aload_n (ls := [some (.ref 82), some (.int v1), some (.int v2), some (.int v3), o4, o5, o6]) zd_183_44 rfl]
          rw [zs_getR (n := 119) (K := zx_pk (zK L) 119) (ρ := zR) (c := 12) (k := 47) (q := 82) (p := 107) zd_183_45 rfl rfl rfl (by decide) rfl]
          rw [zs_aload_n (ls := [some (.ref 82), some (.int v1), some (.int v2), some (.int v3), o4, o5, o6]) zd_183_48 rfl]
          rw [zs_iload_n (ls := [some (.ref 82), some (.int v1), some (.int v2), some (.int v3), o4, o5, o6]) zd_183_49 rfl]
          obtain ⟨r7, hr7, H⟩ := Option.bind_eq_some_iff.mp H
          rw [zp_callVi (x := r7) (st := [.int v2, .ref 82, .ref 107, .int (24 * v2)]) (as := [.ref 82, .int v2]) (rest := [.ref 107, .int (24 * v2)]) (e := 0) zd_183_50 rfl (by decide +kernel) (by decide) rfl rfl (Nat.le_of_ble_eq_true rfl) (zx_rcb_ok rfl (show 82 < 119 by decide)) (Nat.le_of_ble_eq_true rfl) rfl (by decide) (zt_M_at hr7)]
          by_cases c8 : 0 ≤ r7 ∧ r7 < 40
          · rw [if_pos c8] at H
            rw [zp_iaload (n := 119) (K := zx_pk (zK L) 119) (σ := σ) (q := 107) (m := 40) (i := r7) (k := r7.toNatClampNeg) (v := (σ 107 r7.toNatClampNeg)) zd_183_53 rfl (by decide) (zJ_in c8 rfl) rfl rfl]
            rw [zp_iadd (x := (24 * v2)) (y := (σ 107 r7.toNatClampNeg)) (z := ((24 * v2) + (σ 107 r7.toNatClampNeg))) zd_183_54 rfl]
            rw [zs_istore (x := ((24 * v2) + (σ 107 r7.toNatClampNeg))) (ls' := [some (.ref 82), some (.int v1), some (.int v2), some (.int v3), some (.int ((24 * v2) + (σ 107 r7.toNatClampNeg))), o5, o6]) zd_183_55 (Nat.le_of_ble_eq_true rfl) rfl]
            rw [zs_bipush (z := 24) zd_183_57 (by decide)]
            rw [zs_iload_n (ls := [some (.ref 82), some (.int v1), some (.int v2), some (.int v3), some (.int ((24 * v2) + (σ 107 r7.toNatClampNeg))), o5, o6]) zd_183_59 rfl]
            rw [zp_imul (x := 24) (y := v3) (z := (24 * v3)) zd_183_60 rfl]
            rw [zs_aload_n (ls := [some (.ref 82), some (.int v1), some (.int v2), some (.int v3), some (.int ((24 * v2) + (σ 107 r7.toNatClampNeg))), o5, o6]) zd_183_61 rfl]
            rw [zs_getR (n := 119) (K := zx_pk (zK L) 119) (ρ := zR) (c := 12) (k := 47) (q := 82) (p := 107) zd_183_62 rfl rfl rfl (by decide) rfl]
            rw [zs_aload_n (ls := [some (.ref 82), some (.int v1), some (.int v2), some (.int v3), some (.int ((24 * v2) + (σ 107 r7.toNatClampNeg))), o5, o6]) zd_183_65 rfl]
            rw [zs_iload_n (ls := [some (.ref 82), some (.int v1), some (.int v2), some (.int v3), some (.int ((24 * v2) + (σ 107 r7.toNatClampNeg))), o5, o6]) zd_183_66 rfl]
            obtain ⟨r9, hr9, H⟩ := Option.bind_eq_some_iff.mp H
            rw [zp_callVi (x := r9) (st := [.int v3, .ref 82, .ref 107, .int (24 * v3)]) (as := [.ref 82, .int v3]) (rest := [.ref 107, .int (24 * v3)]) (e := 0) zd_183_67 rfl (by decide +kernel) (by decide) rfl rfl (Nat.le_of_ble_eq_true rfl) (zx_rcb_ok rfl (show 82 < 119 by decide)) (Nat.le_of_ble_eq_true rfl) rfl (by decide) (zt_M_at hr9)]
            by_cases c10 : 0 ≤ r9 ∧ r9 < 40
            · rw [if_pos c10] at H
              rw [zp_iaload (n := 119) (K := zx_pk (zK L) 119) (σ := σ) (q := 107) (m := 40) (i := r9) (k := r9.toNatClampNeg) (v := (σ 107 r9.toNatClampNeg)) zd_183_70 rfl (by decide) (zJ_in c10 rfl) rfl rfl]
              rw [zp_iadd (x := (24 * v3)) (y := (σ 107 r9.toNatClampNeg)) (z := ((24 * v3) + (σ 107 r9.toNatClampNeg))) zd_183_71 rfl]
              rw [zs_istore (x := ((24 * v3) + (σ 107 r9.toNatClampNeg))) (ls' := [some (.ref 82), some (.int v1), some (.int v2), some (.int v3), some (.int ((24 * v2) + (σ 107 r7.toNatClampNeg))), some (.int ((24 * v3) + (σ 107 r9.toNatClampNeg))), o6]) zd_183_72 (Nat.le_of_ble_eq_true rfl) rfl]
              rw [zs_bipush (z := 96) zd_183_74 (by decide)]
              rw [zs_iload (ls := [some (.ref 82), some (.int v1), some (.int v2), some (.int v3), some (.int ((24 * v2) + (σ 107 r7.toNatClampNeg))), some (.int ((24 * v3) + (σ 107 r9.toNatClampNeg))), o6]) zd_183_76 rfl]
              rw [zp_imul (x := 96) (y := ((24 * v2) + (σ 107 r7.toNatClampNeg))) (z := (96 * ((24 * v2) + (σ 107 r7.toNatClampNeg)))) zd_183_78 rfl]
              rw [zs_iload (ls := [some (.ref 82), some (.int v1), some (.int v2), some (.int v3), some (.int ((24 * v2) + (σ 107 r7.toNatClampNeg))), some (.int ((24 * v3) + (σ 107 r9.toNatClampNeg))), o6]) zd_183_79 rfl]
              rw [zp_iadd (x := (96 * ((24 * v2) + (σ 107 r7.toNatClampNeg)))) (y := ((24 * v3) + (σ 107 r9.toNatClampNeg))) (z := ((96 * ((24 * v2) + (σ 107 r7.toNatClampNeg))) + ((24 * v3) + (σ 107 r9.toNatClampNeg)))) zd_183_81 rfl]
              rw [zs_istore (x := ((96 * ((24 * v2) + (σ 107 r7.toNatClampNeg))) + ((24 * v3) + (σ 107 r9.toNatClampNeg)))) (ls' := [some (.ref 82), some (.int v1), some (.int v2), some (.int v3), some (.int ((24 * v2) + (σ 107 r7.toNatClampNeg))), some (.int ((24 * v3) + (σ 107 r9.toNatClampNeg))), some (.int ((96 * ((24 * v2) + (σ 107 r7.toNatClampNeg))) + ((24 * v3) + (σ 107 r9.toNatClampNeg))))]) zd_183_82 (Nat.le_of_ble_eq_true rfl) rfl]
              rw [zs_aload_n (ls := [some (.ref 82), some (.int v1), some (.int v2), some (.int v3), some (.int ((24 * v2) + (σ 107 r7.toNatClampNeg))), some (.int ((24 * v3) + (σ 107 r9.toNatClampNeg))), some (.int ((96 * ((24 * v2) + (σ 107 r7.toNatClampNeg))) + ((24 * v3) + (σ 107 r9.toNatClampNeg))))]) zd_183_84 rfl]
              rw [zs_iload (ls := [some (.ref 82), some (.int v1), some (.int v2), some (.int v3), some (.int ((24 * v2) + (σ 107 r7.toNatClampNeg))), some (.int ((24 * v3) + (σ 107 r9.toNatClampNeg))), some (.int ((96 * ((24 * v2) + (σ 107 r7.toNatClampNeg))) + ((24 * v3) + (σ 107 r9.toNatClampNeg))))]) zd_183_85 rfl]
              rw [zs_iload (ls := [some (.ref 82), some (.int v1), some (.int v2), some (.int v3), some (.int ((24 * v2) + (σ 107 r7.toNatClampNeg))), some (.int ((24 * v3) + (σ 107 r9.toNatClampNeg))), some (.int ((96 * ((24 * v2) + (σ 107 r7.toNatClampNeg))) + ((24 * v3) + (σ 107 r9.toNatClampNeg))))]) zd_183_87 rfl]
              obtain ⟨r11, hr11, H⟩ := Option.bind_eq_some_iff.mp H
              rw [zp_callVi (x := r11) (st := [.int ((24 * v3) + (σ 107 r9.toNatClampNeg)), .int ((24 * v2) + (σ 107 r7.toNatClampNeg)), .ref 82]) (as := [.ref 82, .int ((24 * v2) + (σ 107 r7.toNatClampNeg)), .int ((24 * v3) + (σ 107 r9.toNatClampNeg))]) (rest := []) (e := 1) zd_183_89 rfl (by decide +kernel) (by decide) rfl rfl (Nat.le_of_ble_eq_true rfl) (zx_rcb_ok rfl (show 82 < 119 by decide)) (Nat.le_of_ble_eq_true rfl) rfl (by decide) (zt_M_wouldRace hr11)]
              by_cases c12 : r11 = 0
              · rw [if_pos c12] at H
                rw [zp_if_eq_t (x := r11) (t := 115) zd_183_92 rfl c12]
                exact zt_M_lookForRaces_115 (hk14 := ih) H
              · rw [if_neg c12] at H
                rw [zp_if_eq_f (x := r11) (t := 115) zd_183_92 rfl c12]
                rw [zs_aload_n (ls := [some (.ref 82), some (.int v1), some (.int v2), some (.int v3), some (.int ((24 * v2) + (σ 107 r7.toNatClampNeg))), some (.int ((24 * v3) + (σ 107 r9.toNatClampNeg))), some (.int ((96 * ((24 * v2) + (σ 107 r7.toNatClampNeg))) + ((24 * v3) + (σ 107 r9.toNatClampNeg))))]) zd_183_95 rfl]
                rw [zs_getR (n := 119) (K := zx_pk (zK L) 119) (ρ := zR) (c := 12) (k := 58) (q := 82) (p := 114) zd_183_96 rfl rfl rfl (by decide) rfl]
                rw [zs_iload (ls := [some (.ref 82), some (.int v1), some (.int v2), some (.int v3), some (.int ((24 * v2) + (σ 107 r7.toNatClampNeg))), some (.int ((24 * v3) + (σ 107 r9.toNatClampNeg))), some (.int ((96 * ((24 * v2) + (σ 107 r7.toNatClampNeg))) + ((24 * v3) + (σ 107 r9.toNatClampNeg))))]) zd_183_99 rfl]
                by_cases c13 : 0 ≤ ((96 * ((24 * v2) + (σ 107 r7.toNatClampNeg))) + ((24 * v3) + (σ 107 r9.toNatClampNeg))) ∧ ((96 * ((24 * v2) + (σ 107 r7.toNatClampNeg))) + ((24 * v3) + (σ 107 r9.toNatClampNeg))) < 9216
                · rw [if_pos c13] at H
                  rw [zp_iaload (n := 119) (K := zx_pk (zK L) 119) (σ := σ) (q := 114) (m := 9216) (i := ((96 * ((24 * v2) + (σ 107 r7.toNatClampNeg))) + ((24 * v3) + (σ 107 r9.toNatClampNeg)))) (k := ((96 * ((24 * v2) + (σ 107 r7.toNatClampNeg))) + ((24 * v3) + (σ 107 r9.toNatClampNeg))).toNatClampNeg) (v := (σ 114 ((96 * ((24 * v2) + (σ 107 r7.toNatClampNeg))) + ((24 * v3) + (σ 107 r9.toNatClampNeg))).toNatClampNeg)) zd_183_101 rfl (by decide) (zJ_in c13 rfl) rfl rfl]
                  by_cases c14 : ¬ (σ 114 ((96 * ((24 * v2) + (σ 107 r7.toNatClampNeg))) + ((24 * v3) + (σ 107 r9.toNatClampNeg))).toNatClampNeg) = 0
                  · rw [if_pos c14] at H
                    rw [zp_if_ne_t (x := (σ 114 ((96 * ((24 * v2) + (σ 107 r7.toNatClampNeg))) + ((24 * v3) + (σ 107 r9.toNatClampNeg))).toNatClampNeg)) (t := 115) zd_183_102 rfl c14]
                    exact zt_M_lookForRaces_115 (hk14 := ih) H
                  · rw [if_neg c14] at H
                    rw [zp_if_ne_f (x := (σ 114 ((96 * ((24 * v2) + (σ 107 r7.toNatClampNeg))) + ((24 * v3) + (σ 107 r9.toNatClampNeg))).toNatClampNeg)) (t := 115) zd_183_102 rfl c14]
                    rw [zs_aload_n (ls := [some (.ref 82), some (.int v1), some (.int v2), some (.int v3), some (.int ((24 * v2) + (σ 107 r7.toNatClampNeg))), some (.int ((24 * v3) + (σ 107 r9.toNatClampNeg))), some (.int ((96 * ((24 * v2) + (σ 107 r7.toNatClampNeg))) + ((24 * v3) + (σ 107 r9.toNatClampNeg))))]) zd_183_105 rfl]
                    rw [zs_getR (n := 119) (K := zx_pk (zK L) 119) (ρ := zR) (c := 12) (k := 58) (q := 82) (p := 114) zd_183_106 rfl rfl rfl (by decide) rfl]
                    rw [zs_iload (ls := [some (.ref 82), some (.int v1), some (.int v2), some (.int v3), some (.int ((24 * v2) + (σ 107 r7.toNatClampNeg))), some (.int ((24 * v3) + (σ 107 r9.toNatClampNeg))), some (.int ((96 * ((24 * v2) + (σ 107 r7.toNatClampNeg))) + ((24 * v3) + (σ 107 r9.toNatClampNeg))))]) zd_183_109 rfl]
                    rw [zs_iload_n (ls := [some (.ref 82), some (.int v1), some (.int v2), some (.int v3), some (.int ((24 * v2) + (σ 107 r7.toNatClampNeg))), some (.int ((24 * v3) + (σ 107 r9.toNatClampNeg))), some (.int ((96 * ((24 * v2) + (σ 107 r7.toNatClampNeg))) + ((24 * v3) + (σ 107 r9.toNatClampNeg))))]) zd_183_111 rfl]
                    rw [zs_iconst (z := 1) zd_183_112 (by decide)]
                    rw [zp_iadd (x := v1) (y := 1) (z := (v1 + 1)) zd_183_113 rfl]
                    by_cases c15 : 0 ≤ ((96 * ((24 * v2) + (σ 107 r7.toNatClampNeg))) + ((24 * v3) + (σ 107 r9.toNatClampNeg))) ∧ ((96 * ((24 * v2) + (σ 107 r7.toNatClampNeg))) + ((24 * v3) + (σ 107 r9.toNatClampNeg))) < 9216
                    · rw [if_pos c15] at H
                      rw [zp_iastore (n := 119) (K := zx_pk (zK L) 119) (q := 114) (m := 9216) (i := ((96 * ((24 * v2) + (σ 107 r7.toNatClampNeg))) + ((24 * v3) + (σ 107 r9.toNatClampNeg)))) (k := ((96 * ((24 * v2) + (σ 107 r7.toNatClampNeg))) + ((24 * v3) + (σ 107 r9.toNatClampNeg))).toNatClampNeg) (x := (v1 + 1)) (z := (v1 + 1)) zd_183_114 rfl ⟨by decide, by decide⟩ (zJ_in c15 rfl) rfl rfl]
                      exact zt_M_lookForRaces_115 (hk14 := ih) H
                    · rw [if_neg c15] at H
                      cases H
                · rw [if_neg c13] at H
                  cases H
            · rw [if_neg c10] at H
              cases H
          · rw [if_neg c8] at H
            cases H
set_option maxRecDepth 20000 in
theorem zt_M_lookForRaces_2 {a b L N : Nat} : ∀ {n : Nat} {σ : zS} {τ : zT} {v1 : Int32} {v2 : Int32} {o3 : Option Value} {o4 : Option Value} {o5 : Option Value} {o6 : Option Value} {r : zS}, zb_M_lookForRaces_2 N n σ v1 v2 = some r → zx_go 2 183 2 [some (.ref 82), some (.int v1), some (.int v2), o3, o4, o5, o6] [] ((119, a, b), zx_pk (zK L) 119, σ, τ, zR) = some (none, ((119, a, b), zx_pk (zK L) 119, r, τ, zR)) := by
  intro n
  induction n with
  | zero =>
    intro _ _ _ _ _ _ _ _ _ H
    cases H
  | succ n ih =>
    intro σ τ v1 v2 o3 o4 o5 o6 r H
    rw [zb_M_lookForRaces_2] at H
    rw [zs_iload_n (ls := [some (.ref 82), some (.int v1), some (.int v2), o3, o4, o5, o6]) zd_183_2 rfl]
    rw [zs_aload_n (ls := [some (.ref 82), some (.int v1), some (.int v2), o3, o4, o5, o6]) zd_183_3 rfl]
    rw [zp_getI (n := 119) (K := zx_pk (zK L) 119) (σ := σ) (c := 12) (k := 17) (q := 82) (v := (σ 82 17)) zd_183_4 rfl rfl rfl (by decide) rfl]
    by_cases c1 : (σ 82 17) ≤ v2
    · rw [if_pos c1] at H
      rw [zp_icmp_ge_t (x := v2) (y := (σ 82 17)) (t := 127) zd_183_7 rfl c1]
      have H := Option.some.inj H
      subst H
      exact zs_return zd_183_127 (by decide +kernel)
    · rw [if_neg c1] at H
      rw [zp_icmp_ge_f (x := v2) (y := (σ 82 17)) (t := 127) zd_183_7 rfl c1]
      rw [zs_iload_n (ls := [some (.ref 82), some (.int v1), some (.int v2), o3, o4, o5, o6]) zd_183_10 rfl]
      rw [zs_iconst (z := 1) zd_183_11 (by decide)]
      rw [zp_iadd (x := v2) (y := 1) (z := (v2 + 1)) zd_183_12 rfl]
      rw [zs_istore_n (x := (v2 + 1)) (ls' := [some (.ref 82), some (.int v1), some (.int v2), some (.int (v2 + 1)), o4, o5, o6]) zd_183_13 (Nat.le_of_ble_eq_true rfl) rfl]
      exact zt_M_lookForRaces_14 (hk2 := ih) H
set_option maxRecDepth 20000 in
theorem zt_M_lookForRaces {a b L N : Nat} {σ : zS} {τ : zT} {x1 : Int32} {r : zS} (H : zf_M_lookForRaces N σ x1 = some r) : zx_go 2 183 0 [some (.ref 82), some (.int x1), none, none, none, none, none] [] ((119, a, b), zx_pk (zK L) 119, σ, τ, zR) = some (none, ((119, a, b), zx_pk (zK L) 119, r, τ, zR)) := by
  unfold zf_M_lookForRaces at H
  rw [zs_iconst (z := 0) zd_183_0 (by decide)]
  rw [zs_istore_n (x := 0) (ls' := [some (.ref 82), some (.int x1), some (.int 0), none, none, none, none]) zd_183_1 (Nat.le_of_ble_eq_true rfl) rfl]
  exact zt_M_lookForRaces_2  H
set_option maxRecDepth 20000 in
theorem zt_M_isOutcome_206 {a b L N : Nat} {k66 : zS → Int32 → Int32 → Int32 → Int32 → Int32 → Int32 → Option (Int32)} (hk66 : ∀ {σ : zS} {τ : zT} {v1 : Int32} {v2 : Int32} {v3 : Int32} {v4 : Int32} {v5 : Int32} {v6 : Int32} {o7 : Option Value} {o8 : Option Value} {r : Int32}, k66 σ v1 v2 v3 v4 v5 v6 = some r → zx_go 1 194 66 [some (.ref 82), some (.int v1), some (.int v2), some (.int v3), some (.int v4), some (.int v5), some (.int v6), o7, o8] [] ((119, a, b), zx_pk (zK L) 119, σ, τ, zR) = some (some (.int r), ((119, a, b), zx_pk (zK L) 119, σ, τ, zR))) {σ : zS} {τ : zT} {v1 : Int32} {v2 : Int32} {v3 : Int32} {v4 : Int32} {v6 : Int32} {s0 : Int32} {o5 : Option Value} {o7 : Option Value} {o8 : Option Value} {r : Int32} (H : zb_M_isOutcome_206 k66 N σ v1 v2 v3 v4 v6 s0 = some r) : zx_go 1 194 206 [some (.ref 82), some (.int v1), some (.int v2), some (.int v3), some (.int v4), o5, some (.int v6), o7, o8] [.int s0] ((119, a, b), zx_pk (zK L) 119, σ, τ, zR) = some (some (.int r), ((119, a, b), zx_pk (zK L) 119, σ, τ, zR)) := by
  unfold zb_M_isOutcome_206 at H
  rw [zs_istore (x := s0) (ls' := [some (.ref 82), some (.int v1), some (.int v2), some (.int v3), some (.int v4), some (.int s0), some (.int v6), o7, o8]) zd_194_206 (Nat.le_of_ble_eq_true rfl) rfl]
  rw [zs_iinc (ls := [some (.ref 82), some (.int v1), some (.int v2), some (.int v3), some (.int v4), some (.int s0), some (.int v6), o7, o8]) (x := v6) (z := (v6 + 1)) (ls' := [some (.ref 82), some (.int v1), some (.int v2), some (.int v3), some (.int v4), some (.int s0), some (.int (v6 + 1)), o7, o8]) zd_194_208 rfl rfl rfl]
  rw [zs_goto (t := 66) zd_194_211 rfl]
  exact hk66 H
set_option maxRecDepth 20000 in
theorem zt_M_isOutcome_205 {a b L N : Nat} {k66 : zS → Int32 → Int32 → Int32 → Int32 → Int32 → Int32 → Option (Int32)} (hk66 : ∀ {σ : zS} {τ : zT} {v1 : Int32} {v2 : Int32} {v3 : Int32} {v4 : Int32} {v5 : Int32} {v6 : Int32} {o7 : Option Value} {o8 : Option Value} {r : Int32}, k66 σ v1 v2 v3 v4 v5 v6 = some r → zx_go 1 194 66 [some (.ref 82), some (.int v1), some (.int v2), some (.int v3), some (.int v4), some (.int v5), some (.int v6), o7, o8] [] ((119, a, b), zx_pk (zK L) 119, σ, τ, zR) = some (some (.int r), ((119, a, b), zx_pk (zK L) 119, σ, τ, zR))) {σ : zS} {τ : zT} {v1 : Int32} {v2 : Int32} {v3 : Int32} {v4 : Int32} {v6 : Int32} {o5 : Option Value} {o7 : Option Value} {o8 : Option Value} {r : Int32} (H : zb_M_isOutcome_205 k66 N σ v1 v2 v3 v4 v6 = some r) : zx_go 1 194 205 [some (.ref 82), some (.int v1), some (.int v2), some (.int v3), some (.int v4), o5, some (.int v6), o7, o8] [] ((119, a, b), zx_pk (zK L) 119, σ, τ, zR) = some (some (.int r), ((119, a, b), zx_pk (zK L) 119, σ, τ, zR)) := by
  unfold zb_M_isOutcome_205 at H
  rw [zs_iconst (z := 0) zd_194_205 (by decide)]
  exact zt_M_isOutcome_206 (hk66 := hk66) H
set_option maxRecDepth 20000 in
theorem zt_M_isOutcome_201 {a b L N : Nat} {k66 : zS → Int32 → Int32 → Int32 → Int32 → Int32 → Int32 → Option (Int32)} (hk66 : ∀ {σ : zS} {τ : zT} {v1 : Int32} {v2 : Int32} {v3 : Int32} {v4 : Int32} {v5 : Int32} {v6 : Int32} {o7 : Option Value} {o8 : Option Value} {r : Int32}, k66 σ v1 v2 v3 v4 v5 v6 = some r → zx_go 1 194 66 [some (.ref 82), some (.int v1), some (.int v2), some (.int v3), some (.int v4), some (.int v5), some (.int v6), o7, o8] [] ((119, a, b), zx_pk (zK L) 119, σ, τ, zR) = some (some (.int r), ((119, a, b), zx_pk (zK L) 119, σ, τ, zR))) {σ : zS} {τ : zT} {v1 : Int32} {v2 : Int32} {v3 : Int32} {v4 : Int32} {v6 : Int32} {o5 : Option Value} {o7 : Option Value} {o8 : Option Value} {r : Int32} (H : zb_M_isOutcome_201 k66 N σ v1 v2 v3 v4 v6 = some r) : zx_go 1 194 201 [some (.ref 82), some (.int v1), some (.int v2), some (.int v3), some (.int v4), o5, some (.int v6), o7, o8] [] ((119, a, b), zx_pk (zK L) 119, σ, τ, zR) = some (some (.int r), ((119, a, b), zx_pk (zK L) 119, σ, τ, zR)) := by
  unfold zb_M_isOutcome_201 at H
  rw [zs_iconst (z := 1) zd_194_201 (by decide)]
  rw [zs_goto (t := 206) zd_194_202 rfl]
  exact zt_M_isOutcome_206 (hk66 := hk66) H
set_option maxRecDepth 20000 in
theorem zt_M_isOutcome_177 {a b L N : Nat} {k66 : zS → Int32 → Int32 → Int32 → Int32 → Int32 → Int32 → Option (Int32)} (hk66 : ∀ {σ : zS} {τ : zT} {v1 : Int32} {v2 : Int32} {v3 : Int32} {v4 : Int32} {v5 : Int32} {v6 : Int32} {o7 : Option Value} {o8 : Option Value} {r : Int32}, k66 σ v1 v2 v3 v4 v5 v6 = some r → zx_go 1 194 66 [some (.ref 82), some (.int v1), some (.int v2), some (.int v3), some (.int v4), some (.int v5), some (.int v6), o7, o8] [] ((119, a, b), zx_pk (zK L) 119, σ, τ, zR) = some (some (.int r), ((119, a, b), zx_pk (zK L) 119, σ, τ, zR))) {σ : zS} {τ : zT} {v1 : Int32} {v2 : Int32} {v3 : Int32} {v5 : Int32} {v6 : Int32} {v8 : Int32} {s0 : Int32} {o4 : Option Value} {o7 : Option Value} {r : Int32} (H : zb_M_isOutcome_177 k66 N σ v1 v2 v3 v5 v6 v8 s0 = some r) : zx_go 1 194 177 [some (.ref 82), some (.int v1), some (.int v2), some (.int v3), o4, some (.int v5), some (.int v6), o7, some (.int v8)] [.int s0] ((119, a, b), zx_pk (zK L) 119, σ, τ, zR) = some (some (.int r), ((119, a, b), zx_pk (zK L) 119, σ, τ, zR)) := by
  unfold zb_M_isOutcome_177 at H
  rw [zs_istore (x := s0) (ls' := [some (.ref 82), some (.int v1), some (.int v2), some (.int v3), some (.int s0), some (.int v5), some (.int v6), o7, some (.int v8)]) zd_194_177 (Nat.le_of_ble_eq_true rfl) rfl]
  rw [zs_iload (ls := [some (.ref 82), some (.int v1), some (.int v2), some (.int v3), some (.int s0), some (.int v5), some (.int v6), o7, some (.int v8)]) zd_194_179 rfl]
  by_cases c11 : ¬ v5 = 0
  · rw [if_pos c11] at H
    rw [zp_if_ne_t (x := v5) (t := 201) zd_194_181 rfl c11]
    exact zt_M_isOutcome_201 (hk66 := hk66) H
  · rw [if_neg c11] at H
    rw [zp_if_ne_f (x := v5) (t := 201) zd_194_181 rfl c11]
    rw [zs_iload (ls := [some (.ref 82), some (.int v1), some (.int v2), some (.int v3), some (.int s0), some (.int v5), some (.int v6), o7, some (.int v8)]) zd_194_184 rfl]
    rw [zs_iconst (z := 4) zd_194_186 (by decide)]
    by_cases c12 : v8 = 4
    · rw [if_pos c12] at H
      rw [zp_icmp_eq_t (x := v8) (y := 4) (t := 205) zd_194_187 rfl c12]
      exact zt_M_isOutcome_205 (hk66 := hk66) H
    · rw [if_neg c12] at H
      rw [zp_icmp_eq_f (x := v8) (y := 4) (t := 205) zd_194_187 rfl c12]
      rw [zs_iload (ls := [some (.ref 82), some (.int v1), some (.int v2), some (.int v3), some (.int s0), some (.int v5), some (.int v6), o7, some (.int v8)]) zd_194_190 rfl]
      rw [zs_iconst (z := 5) zd_194_192 (by decide)]
      by_cases c13 : v8 = 5
      · rw [if_pos c13] at H
        rw [zp_icmp_eq_t (x := v8) (y := 5) (t := 205) zd_194_193 rfl c13]
        exact zt_M_isOutcome_205 (hk66 := hk66) H
      · rw [if_neg c13] at H
        rw [zp_icmp_eq_f (x := v8) (y := 5) (t := 205) zd_194_193 rfl c13]
        rw [zs_iload (ls := [some (.ref 82), some (.int v1), some (.int v2), some (.int v3), some (.int s0), some (.int v5), some (.int v6), o7, some (.int v8)]) zd_194_196 rfl]
        by_cases c14 : v8 = 0
        · rw [if_pos c14] at H
          rw [zp_if_eq_t (x := v8) (t := 205) zd_194_198 rfl c14]
          exact zt_M_isOutcome_205 (hk66 := hk66) H
        · rw [if_neg c14] at H
          rw [zp_if_eq_f (x := v8) (t := 205) zd_194_198 rfl c14]
          exact zt_M_isOutcome_201 (hk66 := hk66) H
set_option maxRecDepth 20000 in
theorem zt_M_isOutcome_176 {a b L N : Nat} {k66 : zS → Int32 → Int32 → Int32 → Int32 → Int32 → Int32 → Option (Int32)} (hk66 : ∀ {σ : zS} {τ : zT} {v1 : Int32} {v2 : Int32} {v3 : Int32} {v4 : Int32} {v5 : Int32} {v6 : Int32} {o7 : Option Value} {o8 : Option Value} {r : Int32}, k66 σ v1 v2 v3 v4 v5 v6 = some r → zx_go 1 194 66 [some (.ref 82), some (.int v1), some (.int v2), some (.int v3), some (.int v4), some (.int v5), some (.int v6), o7, o8] [] ((119, a, b), zx_pk (zK L) 119, σ, τ, zR) = some (some (.int r), ((119, a, b), zx_pk (zK L) 119, σ, τ, zR))) {σ : zS} {τ : zT} {v1 : Int32} {v2 : Int32} {v3 : Int32} {v5 : Int32} {v6 : Int32} {v8 : Int32} {o4 : Option Value} {o7 : Option Value} {r : Int32} (H : zb_M_isOutcome_176 k66 N σ v1 v2 v3 v5 v6 v8 = some r) : zx_go 1 194 176 [some (.ref 82), some (.int v1), some (.int v2), some (.int v3), o4, some (.int v5), some (.int v6), o7, some (.int v8)] [] ((119, a, b), zx_pk (zK L) 119, σ, τ, zR) = some (some (.int r), ((119, a, b), zx_pk (zK L) 119, σ, τ, zR)) := by
  unfold zb_M_isOutcome_176 at H
  rw [zs_iconst (z := 0) zd_194_176 (by decide)]
  exact zt_M_isOutcome_177 (hk66 := hk66) H
set_option maxRecDepth 20000 in
theorem zt_M_isOutcome_172 {a b L N : Nat} {k66 : zS → Int32 → Int32 → Int32 → Int32 → Int32 → Int32 → Option (Int32)} (hk66 : ∀ {σ : zS} {τ : zT} {v1 : Int32} {v2 : Int32} {v3 : Int32} {v4 : Int32} {v5 : Int32} {v6 : Int32} {o7 : Option Value} {o8 : Option Value} {r : Int32}, k66 σ v1 v2 v3 v4 v5 v6 = some r → zx_go 1 194 66 [some (.ref 82), some (.int v1), some (.int v2), some (.int v3), some (.int v4), some (.int v5), some (.int v6), o7, o8] [] ((119, a, b), zx_pk (zK L) 119, σ, τ, zR) = some (some (.int r), ((119, a, b), zx_pk (zK L) 119, σ, τ, zR))) {σ : zS} {τ : zT} {v1 : Int32} {v2 : Int32} {v3 : Int32} {v5 : Int32} {v6 : Int32} {v8 : Int32} {o4 : Option Value} {o7 : Option Value} {r : Int32} (H : zb_M_isOutcome_172 k66 N σ v1 v2 v3 v5 v6 v8 = some r) : zx_go 1 194 172 [some (.ref 82), some (.int v1), some (.int v2), some (.int v3), o4, some (.int v5), some (.int v6), o7, some (.int v8)] [] ((119, a, b), zx_pk (zK L) 119, σ, τ, zR) = some (some (.int r), ((119, a, b), zx_pk (zK L) 119, σ, τ, zR)) := by
  unfold zb_M_isOutcome_172 at H
  rw [zs_iconst (z := 1) zd_194_172 (by decide)]
  rw [zs_goto (t := 177) zd_194_173 rfl]
  exact zt_M_isOutcome_177 (hk66 := hk66) H
set_option maxRecDepth 20000 in
theorem zt_M_isOutcome_149 {a b L N : Nat} {k66 : zS → Int32 → Int32 → Int32 → Int32 → Int32 → Int32 → Option (Int32)} (hk66 : ∀ {σ : zS} {τ : zT} {v1 : Int32} {v2 : Int32} {v3 : Int32} {v4 : Int32} {v5 : Int32} {v6 : Int32} {o7 : Option Value} {o8 : Option Value} {r : Int32}, k66 σ v1 v2 v3 v4 v5 v6 = some r → zx_go 1 194 66 [some (.ref 82), some (.int v1), some (.int v2), some (.int v3), some (.int v4), some (.int v5), some (.int v6), o7, o8] [] ((119, a, b), zx_pk (zK L) 119, σ, τ, zR) = some (some (.int r), ((119, a, b), zx_pk (zK L) 119, σ, τ, zR))) {σ : zS} {τ : zT} {v1 : Int32} {v2 : Int32} {v4 : Int32} {v5 : Int32} {v6 : Int32} {v7 : Int32} {v8 : Int32} {s0 : Int32} {o3 : Option Value} {r : Int32} (H : zb_M_isOutcome_149 k66 N σ v1 v2 v4 v5 v6 v7 v8 s0 = some r) : zx_go 1 194 149 [some (.ref 82), some (.int v1), some (.int v2), o3, some (.int v4), some (.int v5), some (.int v6), some (.int v7), some (.int v8)] [.int s0] ((119, a, b), zx_pk (zK L) 119, σ, τ, zR) = some (some (.int r), ((119, a, b), zx_pk (zK L) 119, σ, τ, zR)) := by
  unfold zb_M_isOutcome_149 at H
  rw [zs_istore_n (x := s0) (ls' := [some (.ref 82), some (.int v1), some (.int v2), some (.int s0), some (.int v4), some (.int v5), some (.int v6), some (.int v7), some (.int v8)]) zd_194_149 (Nat.le_of_ble_eq_true rfl) rfl]
  rw [zs_iload (ls := [some (.ref 82), some (.int v1), some (.int v2), some (.int s0), some (.int v4), some (.int v5), some (.int v6), some (.int v7), some (.int v8)]) zd_194_150 rfl]
  by_cases c10 : ¬ v4 = 0
  · rw [if_pos c10] at H
    rw [zp_if_ne_t (x := v4) (t := 172) zd_194_152 rfl c10]
    exact zt_M_isOutcome_172 (hk66 := hk66) H
  · rw [if_neg c10] at H
    rw [zp_if_ne_f (x := v4) (t := 172) zd_194_152 rfl c10]
    rw [zs_iload (ls := [some (.ref 82), some (.int v1), some (.int v2), some (.int s0), some (.int v4), some (.int v5), some (.int v6), some (.int v7), some (.int v8)]) zd_194_155 rfl]
    rw [zs_iconst (z := 4) zd_194_157 (by decide)]
    by_cases c15 : v7 = 4
    · rw [if_pos c15] at H
      rw [zp_icmp_eq_t (x := v7) (y := 4) (t := 176) zd_194_158 rfl c15]
      exact zt_M_isOutcome_176 (hk66 := hk66) H
    · rw [if_neg c15] at H
      rw [zp_icmp_eq_f (x := v7) (y := 4) (t := 176) zd_194_158 rfl c15]
      rw [zs_iload (ls := [some (.ref 82), some (.int v1), some (.int v2), some (.int s0), some (.int v4), some (.int v5), some (.int v6), some (.int v7), some (.int v8)]) zd_194_161 rfl]
      rw [zs_iconst (z := 5) zd_194_163 (by decide)]
      by_cases c16 : v7 = 5
      · rw [if_pos c16] at H
        rw [zp_icmp_eq_t (x := v7) (y := 5) (t := 176) zd_194_164 rfl c16]
        exact zt_M_isOutcome_176 (hk66 := hk66) H
      · rw [if_neg c16] at H
        rw [zp_icmp_eq_f (x := v7) (y := 5) (t := 176) zd_194_164 rfl c16]
        rw [zs_iload (ls := [some (.ref 82), some (.int v1), some (.int v2), some (.int s0), some (.int v4), some (.int v5), some (.int v6), some (.int v7), some (.int v8)]) zd_194_167 rfl]
        by_cases c17 : v7 = 0
        · rw [if_pos c17] at H
          rw [zp_if_eq_t (x := v7) (t := 176) zd_194_169 rfl c17]
          exact zt_M_isOutcome_176 (hk66 := hk66) H
        · rw [if_neg c17] at H
          rw [zp_if_eq_f (x := v7) (t := 176) zd_194_169 rfl c17]
          exact zt_M_isOutcome_172 (hk66 := hk66) H
set_option maxRecDepth 20000 in
theorem zt_M_isOutcome_148 {a b L N : Nat} {k66 : zS → Int32 → Int32 → Int32 → Int32 → Int32 → Int32 → Option (Int32)} (hk66 : ∀ {σ : zS} {τ : zT} {v1 : Int32} {v2 : Int32} {v3 : Int32} {v4 : Int32} {v5 : Int32} {v6 : Int32} {o7 : Option Value} {o8 : Option Value} {r : Int32}, k66 σ v1 v2 v3 v4 v5 v6 = some r → zx_go 1 194 66 [some (.ref 82), some (.int v1), some (.int v2), some (.int v3), some (.int v4), some (.int v5), some (.int v6), o7, o8] [] ((119, a, b), zx_pk (zK L) 119, σ, τ, zR) = some (some (.int r), ((119, a, b), zx_pk (zK L) 119, σ, τ, zR))) {σ : zS} {τ : zT} {v1 : Int32} {v2 : Int32} {v4 : Int32} {v5 : Int32} {v6 : Int32} {v7 : Int32} {v8 : Int32} {o3 : Option Value} {r : Int32} (H : zb_M_isOutcome_148 k66 N σ v1 v2 v4 v5 v6 v7 v8 = some r) : zx_go 1 194 148 [some (.ref 82), some (.int v1), some (.int v2), o3, some (.int v4), some (.int v5), some (.int v6), some (.int v7), some (.int v8)] [] ((119, a, b), zx_pk (zK L) 119, σ, τ, zR) = some (some (.int r), ((119, a, b), zx_pk (zK L) 119, σ, τ, zR)) := by
  unfold zb_M_isOutcome_148 at H
  rw [zs_iconst (z := 0) zd_194_148 (by decide)]
  exact zt_M_isOutcome_149 (hk66 := hk66) H
set_option maxRecDepth 20000 in
theorem zt_M_isOutcome_141 {a b L N : Nat} {k66 : zS → Int32 → Int32 → Int32 → Int32 → Int32 → Int32 → Option (Int32)} (hk66 : ∀ {σ : zS} {τ : zT} {v1 : Int32} {v2 : Int32} {v3 : Int32} {v4 : Int32} {v5 : Int32} {v6 : Int32} {o7 : Option Value} {o8 : Option Value} {r : Int32}, k66 σ v1 v2 v3 v4 v5 v6 = some r → zx_go 1 194 66 [some (.ref 82), some (.int v1), some (.int v2), some (.int v3), some (.int v4), some (.int v5), some (.int v6), o7, o8] [] ((119, a, b), zx_pk (zK L) 119, σ, τ, zR) = some (some (.int r), ((119, a, b), zx_pk (zK L) 119, σ, τ, zR))) {σ : zS} {τ : zT} {v1 : Int32} {v2 : Int32} {v4 : Int32} {v5 : Int32} {v6 : Int32} {v7 : Int32} {v8 : Int32} {s0 : Int32} {s1 : Int32} {o3 : Option Value} {r : Int32} (H : zb_M_isOutcome_141 k66 N σ v1 v2 v4 v5 v6 v7 v8 s0 s1 = some r) : zx_go 1 194 141 [some (.ref 82), some (.int v1), some (.int v2), o3, some (.int v4), some (.int v5), some (.int v6), some (.int v7), some (.int v8)] [.int s0, .int s1] ((119, a, b), zx_pk (zK L) 119, σ, τ, zR) = some (some (.int r), ((119, a, b), zx_pk (zK L) 119, σ, τ, zR)) := by
  unfold zb_M_isOutcome_141 at H
  by_cases c20 : ¬ s1 = s0
  · rw [if_pos c20] at H
    rw [zp_icmp_ne_t (x := s1) (y := s0) (t := 148) zd_194_141 rfl c20]
    exact zt_M_isOutcome_148 (hk66 := hk66) H
  · rw [if_neg c20] at H
    rw [zp_icmp_ne_f (x := s1) (y := s0) (t := 148) zd_194_141 rfl c20]
    rw [zs_iconst (z := 1) zd_194_144 (by decide)]
    rw [zs_goto (t := 149) zd_194_145 rfl]
    exact zt_M_isOutcome_149 (hk66 := hk66) H
set_option maxRecDepth 20000 in
theorem zt_M_isOutcome_130 {a b L N : Nat} {k66 : zS → Int32 → Int32 → Int32 → Int32 → Int32 → Int32 → Option (Int32)} (hk66 : ∀ {σ : zS} {τ : zT} {v1 : Int32} {v2 : Int32} {v3 : Int32} {v4 : Int32} {v5 : Int32} {v6 : Int32} {o7 : Option Value} {o8 : Option Value} {r : Int32}, k66 σ v1 v2 v3 v4 v5 v6 = some r → zx_go 1 194 66 [some (.ref 82), some (.int v1), some (.int v2), some (.int v3), some (.int v4), some (.int v5), some (.int v6), o7, o8] [] ((119, a, b), zx_pk (zK L) 119, σ, τ, zR) = some (some (.int r), ((119, a, b), zx_pk (zK L) 119, σ, τ, zR))) {σ : zS} {τ : zT} {v1 : Int32} {v2 : Int32} {v4 : Int32} {v5 : Int32} {v6 : Int32} {v7 : Int32} {v8 : Int32} {s0 : Int32} {o3 : Option Value} {r : Int32} (H : zb_M_isOutcome_130 k66 N σ v1 v2 v4 v5 v6 v7 v8 s0 = some r) : zx_go 1 194 130 [some (.ref 82), some (.int v1), some (.int v2), o3, some (.int v4), some (.int v5), some (.int v6), some (.int v7), some (.int v8)] [.int s0] ((119, a, b), zx_pk (zK L) 119, σ, τ, zR) = some (some (.int r), ((119, a, b), zx_pk (zK L) 119, σ, τ, zR)) := by
  unfold zb_M_isOutcome_130 at H
  rw [zs_iload (ls := [some (.ref 82), some (.int v1), some (.int v2), o3, some (.int v4), some (.int v5), some (.int v6), some (.int v7), some (.int v8)]) zd_194_130 rfl]
  rw [zs_iconst (z := 5) zd_194_132 (by decide)]
  by_cases c19 : ¬ v8 = 5
  · rw [if_pos c19] at H
    rw [zp_icmp_ne_t (x := v8) (y := 5) (t := 140) zd_194_133 rfl c19]
    rw [zs_iconst (z := 0) zd_194_140 (by decide)]
    exact zt_M_isOutcome_141 (hk66 := hk66) H
  · rw [if_neg c19] at H
    rw [zp_icmp_ne_f (x := v8) (y := 5) (t := 140) zd_194_133 rfl c19]
    rw [zs_iconst (z := 1) zd_194_136 (by decide)]
    rw [zs_goto (t := 141) zd_194_137 rfl]
    exact zt_M_isOutcome_141 (hk66 := hk66) H
set_option maxRecDepth 20000 in
theorem zt_M_isOutcome_66 {a b L N : Nat} : ∀ {n : Nat} {σ : zS} {τ : zT} {v1 : Int32} {v2 : Int32} {v3 : Int32} {v4 : Int32} {v5 : Int32} {v6 : Int32} {o7 : Option Value} {o8 : Option Value} {r : Int32}, zb_M_isOutcome_66 N n σ v1 v2 v3 v4 v5 v6 = some r → zx_go 1 194 66 [some (.ref 82), some (.int v1), some (.int v2), some (.int v3), some (.int v4), some (.int v5), some (.int v6), o7, o8] [] ((119, a, b), zx_pk (zK L) 119, σ, τ, zR) = some (some (.int r), ((119, a, b), zx_pk (zK L) 119, σ, τ, zR)) := by
  intro n
  induction n with
  | zero =>
    intro _ _ _ _ _ _ _ _ _ _ _ H
    cases H
  | succ n ih =>
    intro σ τ v1 v2 v3 v4 v5 v6 o7 o8 r H
    rw [zb_M_isOutcome_66] at H
    rw [zs_iload (ls := [some (.ref 82), some (.int v1), some (.int v2), some (.int v3), some (.int v4), some (.int v5), some (.int v6), o7, o8]) zd_194_66 rfl]
    rw [zs_aload_n (ls := [some (.ref 82), some (.int v1), some (.int v2), some (.int v3), some (.int v4), some (.int v5), some (.int v6), o7, o8]) zd_194_68 rfl]
    rw [zp_getI (n := 119) (K := zx_pk (zK L) 119) (σ := σ) (c := 12) (k := 17) (q := 82) (v := (σ 82 17)) zd_194_69 rfl rfl rfl (by decide) rfl]
    by_cases c2 : (σ 82 17) ≤ v6
    · rw [if_pos c2] at H
      rw [zp_icmp_ge_t (x := v6) (y := (σ 82 17)) (t := 214) zd_194_72 rfl c2]
      rw [zs_iload_n (ls := [some (.ref 82), some (.int v1), some (.int v2), some (.int v3), some (.int v4), some (.int v5), some (.int v6), o7, o8]) zd_194_214 rfl]
      by_cases c3 : v3 = 0
      · rw [if_pos c3] at H
        rw [zp_if_eq_t (x := v3) (t := 229) zd_194_215 rfl c3]
        rw [zs_iconst (z := 0) zd_194_229 (by decide)]
        have H := Option.some.inj H
        subst H
        exact zs_ireturn zd_194_230 (by decide +kernel)
      · rw [if_neg c3] at H
        rw [zp_if_eq_f (x := v3) (t := 229) zd_194_215 rfl c3]
        rw [zs_iload (ls := [some (.ref 82), some (.int v1), some (.int v2), some (.int v3), some (.int v4), some (.int v5), some (.int v6), o7, o8]) zd_194_218 rfl]
        rw [zs_iload (ls := [some (.ref 82), some (.int v1), some (.int v2), some (.int v3), some (.int v4), some (.int v5), some (.int v6), o7, o8]) zd_194_220 rfl]
        by_cases c4 : ¬ v4 = v5
        · rw [if_pos c4] at H
          rw [zp_icmp_ne_t (x := v4) (y := v5) (t := 229) zd_194_222 rfl c4]
          rw [zs_iconst (z := 0) zd_194_229 (by decide)]
          have H := Option.some.inj H
          subst H
          exact zs_ireturn zd_194_230 (by decide +kernel)
        · rw [if_neg c4] at H
          rw [zp_icmp_ne_f (x := v4) (y := v5) (t := 229) zd_194_222 rfl c4]
          rw [zs_iconst (z := 1) zd_194_225 (by decide)]
          rw [zs_goto (t := 230) zd_194_226 rfl]
          have H := Option.some.inj H
          subst H
          exact zs_ireturn zd_194_230 (by decide +kernel)
    · rw [if_neg c2] at H
      rw [zp_icmp_ge_f (x := v6) (y := (σ 82 17)) (t := 214) zd_194_72 rfl c2]
      rw [zs_aload_n (ls := [some (.ref 82), some (.int v1), some (.int v2), some (.int v3), some (.int v4), some (.int v5), some (.int v6), o7, o8]) zd_194_75 rfl]
      rw [zs_getR (n := 119) (K := zx_pk (zK L) 119) (ρ := zR) (c := 12) (k := 48) (q := 82) (p := 108) zd_194_76 rfl rfl rfl (by decide) rfl]
      rw [zs_bipush (z := 40) zd_194_79 (by decide)]
      rw [zs_iload_n (ls := [some (.ref 82), some (.int v1), some (.int v2), some (.int v3), some (.int v4), some (.int v5), some (.int v6), o7, o8]) zd_194_81 rfl]
      rw [zp_imul (x := 40) (y := v1) (z := (40 * v1)) zd_194_82 rfl]
      rw [zs_aload_n (ls := [some (.ref 82), some (.int v1), some (.int v2), some (.int v3), some (.int v4), some (.int v5), some (.int v6), o7, o8]) zd_194_83 rfl]
      rw [zs_iload (ls := [some (.ref 82), some (.int v1), some (.int v2), some (.int v3), some (.int v4), some (.int v5), some (.int v6), o7, o8]) zd_194_84 rfl]
      obtain ⟨r5, hr5, H⟩ := Option.bind_eq_some_iff.mp H
      rw [zp_callVi (x := r5) (st := [.int v6, .ref 82, .int (40 * v1), .ref 108]) (as := [.ref 82, .int v6]) (rest := [.int (40 * v1), .ref 108]) (e := 0) zd_194_86 rfl (by decide +kernel) (by decide) rfl rfl (Nat.le_of_ble_eq_true rfl) (zx_rcb_ok rfl (show 82 < 119 by decide)) (Nat.le_of_ble_eq_true rfl) rfl (by decide) (zt_M_at hr5)]
      rw [zp_iadd (x := (40 * v1)) (y := r5) (z := ((40 * v1) + r5)) zd_194_89 rfl]
      rw [zs_iconst (z := 1) zd_194_90 (by decide)]
      rw [zp_iadd (x := ((40 * v1) + r5)) (y := 1) (z := (((40 * v1) + r5) + 1)) zd_194_91 rfl]
      by_cases c6 : 0 ≤ (((40 * v1) + r5) + 1) ∧ (((40 * v1) + r5) + 1) < 320000
      · rw [if_pos c6] at H
        rw [zp_baload (n := 119) (K := zx_pk (zK L) 119) (σ := σ) (q := 108) (m := 320000) (i := (((40 * v1) + r5) + 1)) (k := (((40 * v1) + r5) + 1).toNatClampNeg) (v := (σ 108 (((40 * v1) + r5) + 1).toNatClampNeg)) zd_194_92 rfl (by decide) (zJ_in c6 rfl) rfl rfl]
        rw [zs_istore (x := (σ 108 (((40 * v1) + r5) + 1).toNatClampNeg)) (ls' := [some (.ref 82), some (.int v1), some (.int v2), some (.int v3), some (.int v4), some (.int v5), some (.int v6), some (.int (σ 108 (((40 * v1) + r5) + 1).toNatClampNeg)), o8]) zd_194_93 (Nat.le_of_ble_eq_true rfl) rfl]
        rw [zs_aload_n (ls := [some (.ref 82), some (.int v1), some (.int v2), some (.int v3), some (.int v4), some (.int v5), some (.int v6), some (.int (σ 108 (((40 * v1) + r5) + 1).toNatClampNeg)), o8]) zd_194_95 rfl]
        rw [zs_getR (n := 119) (K := zx_pk (zK L) 119) (ρ := zR) (c := 12) (k := 48) (q := 82) (p := 108) zd_194_96 rfl rfl rfl (by decide) rfl]
        rw [zs_bipush (z := 40) zd_194_99 (by decide)]
        rw [zs_iload_n (ls := [some (.ref 82), some (.int v1), some (.int v2), some (.int v3), some (.int v4), some (.int v5), some (.int v6), some (.int (σ 108 (((40 * v1) + r5) + 1).toNatClampNeg)), o8]) zd_194_101 rfl]
        rw [zp_imul (x := 40) (y := v2) (z := (40 * v2)) zd_194_102 rfl]
        rw [zs_aload_n (ls := [some (.ref 82), some (.int v1), some (.int v2), some (.int v3), some (.int v4), some (.int v5), some (.int v6), some (.int (σ 108 (((40 * v1) + r5) + 1).toNatClampNeg)), o8]) zd_194_103 rfl]
        rw [zs_iload (ls := [some (.ref 82), some (.int v1), some (.int v2), some (.int v3), some (.int v4), some (.int v5), some (.int v6), some (.int (σ 108 (((40 * v1) + r5) + 1).toNatClampNeg)), o8]) zd_194_104 rfl]
        obtain ⟨r7, hr7, H⟩ := Option.bind_eq_some_iff.mp H
        rw [zp_callVi (x := r7) (st := [.int v6, .ref 82, .int (40 * v2), .ref 108]) (as := [.ref 82, .int v6]) (rest := [.int (40 * v2), .ref 108]) (e := 0) zd_194_106 rfl (by decide +kernel) (by decide) rfl rfl (Nat.le_of_ble_eq_true rfl) (zx_rcb_ok rfl (show 82 < 119 by decide)) (Nat.le_of_ble_eq_true rfl) rfl (by decide) (zt_M_at hr7)]
        rw [zp_iadd (x := (40 * v2)) (y := r7) (z := ((40 * v2) + r7)) zd_194_109 rfl]
        rw [zs_iconst (z := 1) zd_194_110 (by decide)]
        rw [zp_iadd (x := ((40 * v2) + r7)) (y := 1) (z := (((40 * v2) + r7) + 1)) zd_194_111 rfl]
        by_cases c8 : 0 ≤ (((40 * v2) + r7) + 1) ∧ (((40 * v2) + r7) + 1) < 320000
        · rw [if_pos c8] at H
          rw [zp_baload (n := 119) (K := zx_pk (zK L) 119) (σ := σ) (q := 108) (m := 320000) (i := (((40 * v2) + r7) + 1)) (k := (((40 * v2) + r7) + 1).toNatClampNeg) (v := (σ 108 (((40 * v2) + r7) + 1).toNatClampNeg)) zd_194_112 rfl (by decide) (zJ_in c8 rfl) rfl rfl]
          rw [zs_istore (x := (σ 108 (((40 * v2) + r7) + 1).toNatClampNeg)) (ls' := [some (.ref 82), some (.int v1), some (.int v2), some (.int v3), some (.int v4), some (.int v5), some (.int v6), some (.int (σ 108 (((40 * v1) + r5) + 1).toNatClampNeg)), some (.int (σ 108 (((40 * v2) + r7) + 1).toNatClampNeg))]) zd_194_113 (Nat.le_of_ble_eq_true rfl) rfl]
          rw [zs_iload_n (ls := [some (.ref 82), some (.int v1), some (.int v2), some (.int v3), some (.int v4), some (.int v5), some (.int v6), some (.int (σ 108 (((40 * v1) + r5) + 1).toNatClampNeg)), some (.int (σ 108 (((40 * v2) + r7) + 1).toNatClampNeg))]) zd_194_115 rfl]
          by_cases c9 : v3 = 0
          · rw [if_pos c9] at H
            rw [zp_if_eq_t (x := v3) (t := 148) zd_194_116 rfl c9]
            exact zt_M_isOutcome_148 (hk66 := ih) H
          · rw [if_neg c9] at H
            rw [zp_if_eq_f (x := v3) (t := 148) zd_194_116 rfl c9]
            rw [zs_iload (ls := [some (.ref 82), some (.int v1), some (.int v2), some (.int v3), some (.int v4), some (.int v5), some (.int v6), some (.int (σ 108 (((40 * v1) + r5) + 1).toNatClampNeg)), some (.int (σ 108 (((40 * v2) + r7) + 1).toNatClampNeg))]) zd_194_119 rfl]
            rw [zs_iconst (z := 5) zd_194_121 (by decide)]
            by_cases c18 : ¬ (σ 108 (((40 * v1) + r5) + 1).toNatClampNeg) = 5
            · rw [if_pos c18] at H
              rw [zp_icmp_ne_t (x := (σ 108 (((40 * v1) + r5) + 1).toNatClampNeg)) (y := 5) (t := 129) zd_194_122 rfl c18]
              rw [zs_iconst (z := 0) zd_194_129 (by decide)]
              exact zt_M_isOutcome_130 (hk66 := ih) H
            · rw [if_neg c18] at H
              rw [zp_icmp_ne_f (x := (σ 108 (((40 * v1) + r5) + 1).toNatClampNeg)) (y := 5) (t := 129) zd_194_122 rfl c18]
              rw [zs_iconst (z := 1) zd_194_125 (by decide)]
              rw [zs_goto (t := 130) zd_194_126 rfl]
              exact zt_M_isOutcome_130 (hk66 := ih) H
        · rw [if_neg c8] at H
          cases H
      · rw [if_neg c6] at H
        cases H
