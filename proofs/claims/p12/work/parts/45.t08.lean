/-! theorems of the functions, by program -/
set_option maxRecDepth 20000 in
theorem zt_Machine_load_c1 {a b L N : Nat} {σ : zS} {τ : zT} {x2 : Int32} {r : zS} (H : zf_Machine_load_c1 N σ x2 = some r) : zx_go 2 138 0 [some (.ref 35), some (.ref 65), some (.int x2), none, none, none, none] [] ((119, a, b), zx_pk (zK L) 119, σ, τ, zR) = some (none, ((119, a, b), zx_pk (zK L) 119, r, τ, zR)) := by
  unfold zf_Machine_load_c1 at H
  rw [zs_iload_n (ls := [some (.ref 35), some (.ref 65), some (.int x2), none, none, none, none]) zd_138_0 rfl]
  by_cases c1 : x2 < 0
  · rw [if_pos c1] at H
    rw [zp_if_lt_t (x := x2) (t := 12) zd_138_1 rfl c1]
    have H := Option.some.inj H
    subst H
    exact zs_return zd_138_12 (by decide +kernel)
  · rw [if_neg c1] at H
    rw [zp_if_lt_f (x := x2) (t := 12) zd_138_1 rfl c1]
    rw [zs_iload_n (ls := [some (.ref 35), some (.ref 65), some (.int x2), none, none, none, none]) zd_138_4 rfl]
    rw [zs_iconst (z := 5) zd_138_5 (by decide)]
    rw [zp_iadd (x := x2) (y := 5) (z := (x2 + 5)) zd_138_6 rfl]
    rw [zs_aload_n (ls := [some (.ref 35), some (.ref 65), some (.int x2), none, none, none, none]) zd_138_7 rfl]
    rw [zs_arraylength (n := 119) (K := zx_pk (zK L) 119) (q := 65) (m := 20000) (z := 20000) zd_138_8 rfl (by decide) (by decide)]
    by_cases c2 : (x2 + 5) ≤ 20000
    · rw [if_pos c2] at H
      rw [zp_icmp_le_t (x := (x2 + 5)) (y := 20000) (t := 13) zd_138_9 rfl c2]
      rw [zs_aload_n (ls := [some (.ref 35), some (.ref 65), some (.int x2), none, none, none, none]) zd_138_13 rfl]
      rw [zs_iload_n (ls := [some (.ref 35), some (.ref 65), some (.int x2), none, none, none, none]) zd_138_14 rfl]
      rw [zs_aload_n (ls := [some (.ref 35), some (.ref 65), some (.int x2), none, none, none, none]) zd_138_15 rfl]
      rw [zs_getR (n := 119) (K := zx_pk (zK L) 119) (ρ := zR) (c := 2) (k := 4) (q := 35) (p := 39) zd_138_16 rfl rfl rfl (by decide) rfl]
      rw [zs_iconst (z := 0) zd_138_19 (by decide)]
      rw [zs_iconst (z := 5) zd_138_20 (by decide)]
      by_cases c3 : 0 ≤ x2 ∧ x2 ≤ 19995
      · rw [if_pos c3] at H
        rw [zp_copy (r := []) (n := 119) (K := zx_pk (zK L) 119) (σ := σ) (a := 65) (b := 39) (n0 := 20000) (n1 := 5) (sp := x2) (dp := 0) (m := 5) zd_138_21 rfl (Nat.le_of_ble_eq_true rfl) rfl rfl ⟨by decide, by decide⟩ (zJ_cpi (c0 := 19995) (c1 := 0) ⟨c3.1, c3.2, by decide, by decide⟩ (by decide) (by decide) (by decide))]
        rw [zs_aload_n (ls := [some (.ref 35), some (.ref 65), some (.int x2), none, none, none, none]) zd_138_24 rfl]
        rw [zs_getR (n := 119) (K := zx_pk (zK L) 119) (ρ := zR) (c := 2) (k := 3) (q := 35) (p := 38) zd_138_25 rfl rfl rfl (by decide) rfl]
        rw [zs_iconst (z := (-1)) zd_138_28 (by decide)]
        obtain ⟨r4, hr4, H⟩ := Option.bind_eq_some_iff.mp H
        rw [zp_callSv (st := [.int (-1), .ref 38]) (as := [.ref 38, .int (-1)]) (rest := []) (e := 0) zd_138_29 rfl (by decide +kernel) (by decide) rfl rfl (Nat.le_of_ble_eq_true rfl) rfl (Nat.le_of_ble_eq_true rfl) rfl (by decide) (zt_Arrays_fill_c4 hr4)]
        rw [zs_iconst (z := 0) zd_138_32 (by decide)]
        rw [zs_istore_n (x := 0) (ls' := [some (.ref 35), some (.ref 65), some (.int x2), some (.int 0), none, none, none]) zd_138_33 (Nat.le_of_ble_eq_true rfl) rfl]
        exact zt_Machine_load_c1_34  H
      · rw [if_neg c3] at H
        cases H
    · rw [if_neg c2] at H
      rw [zp_icmp_le_f (x := (x2 + 5)) (y := 20000) (t := 13) zd_138_9 rfl c2]
      have H := Option.some.inj H
      subst H
      exact zs_return zd_138_12 (by decide +kernel)
set_option maxRecDepth 20000 in
theorem zt_Space_load_c1 {a b L N : Nat} {σ : zS} {τ : zT} {x1 : Int32} {r : zS} (H : zf_Space_load_c1 N σ x1 = some r) : zx_go 3 137 0 [some (.ref 64), some (.int x1)] [] ((119, a, b), zx_pk (zK L) 119, σ, τ, zR) = some (none, ((119, a, b), zx_pk (zK L) 119, r, τ, zR)) := by
  unfold zf_Space_load_c1 at H
  rw [zs_aload_n (ls := [some (.ref 64), some (.int x1)]) zd_137_0 rfl]
  rw [zs_iload_n (ls := [some (.ref 64), some (.int x1)]) zd_137_1 rfl]
  obtain ⟨r1, hr1, H⟩ := Option.bind_eq_some_iff.mp H
  rw [zp_callVi (x := r1) (st := [.int x1, .ref 64]) (as := [.ref 64, .int x1]) (rest := []) (e := 0) zd_137_2 rfl (by decide +kernel) (by decide) rfl rfl (Nat.le_of_ble_eq_true rfl) (zx_rcb_ok rfl (show 64 < 119 by decide)) (Nat.le_of_ble_eq_true rfl) rfl (by decide) (zt_Space_has_c1 hr1)]
  by_cases c2 : r1 = 0
  · rw [if_pos c2] at H
    rw [zp_if_eq_t (x := r1) (t := 22) zd_137_5 rfl c2]
    have H := Option.some.inj H
    subst H
    exact zs_return zd_137_22 (by decide +kernel)
  · rw [if_neg c2] at H
    rw [zp_if_eq_f (x := r1) (t := 22) zd_137_5 rfl c2]
    rw [zs_aload_n (ls := [some (.ref 64), some (.int x1)]) zd_137_8 rfl]
    rw [zs_getR (n := 119) (K := zx_pk (zK L) 119) (ρ := zR) (c := 8) (k := 1) (q := 64) (p := 35) zd_137_9 rfl rfl rfl (by decide) rfl]
    rw [zs_aload_n (ls := [some (.ref 64), some (.int x1)]) zd_137_12 rfl]
    rw [zs_getR (n := 119) (K := zx_pk (zK L) 119) (ρ := zR) (c := 8) (k := 2) (q := 64) (p := 65) zd_137_13 rfl rfl rfl (by decide) rfl]
    rw [zs_iload_n (ls := [some (.ref 64), some (.int x1)]) zd_137_16 rfl]
    rw [zs_iconst (z := 5) zd_137_17 (by decide)]
    rw [zp_imul (x := x1) (y := 5) (z := (x1 * 5)) zd_137_18 rfl]
    obtain ⟨r3, hr3, H⟩ := Option.bind_eq_some_iff.mp H
    rw [zp_callVv (st := [.int (x1 * 5), .ref 65, .ref 35]) (as := [.ref 35, .ref 65, .int (x1 * 5)]) (rest := []) (e := 2) zd_137_19 rfl (by decide +kernel) (by decide) rfl rfl (Nat.le_of_ble_eq_true rfl) (zx_rcb_ok rfl (show 35 < 119 by decide)) (Nat.le_of_ble_eq_true rfl) rfl (by decide) (zt_Machine_load_c1 hr3)]
    have H := Option.some.inj H
    subst H
    exact zs_return zd_137_22 (by decide +kernel)
set_option maxRecDepth 20000 in
theorem zt_Space_exploreFrom_c1_95 {a b L N : Nat} {k20 : zS → Int32 → Int32 → Int32 → Int32 → Int32 → Option (Int32 × zS)} (hk20 : ∀ {σ : zS} {τ : zT} {v1 : Int32} {v2 : Int32} {v3 : Int32} {v4 : Int32} {v5 : Int32} {o6 : Option Value} {r : Int32 × zS}, k20 σ v1 v2 v3 v4 v5 = some r → zx_go 4 136 20 [some (.ref 64), some (.int v1), some (.int v2), some (.int v3), some (.int v4), some (.int v5), o6] [] ((119, a, b), zx_pk (zK L) 119, σ, τ, zR) = some (some (.int r.1), ((119, a, b), zx_pk (zK L) 119, r.2, τ, zR))) {σ : zS} {τ : zT} {v1 : Int32} {v2 : Int32} {v3 : Int32} {v4 : Int32} {v5 : Int32} {o6 : Option Value} {r : Int32 × zS} (H : zb_Space_exploreFrom_c1_95 k20 N σ v1 v2 v3 v4 v5 = some r) : zx_go 4 136 95 [some (.ref 64), some (.int v1), some (.int v2), some (.int v3), some (.int v4), some (.int v5), o6] [] ((119, a, b), zx_pk (zK L) 119, σ, τ, zR) = some (some (.int r.1), ((119, a, b), zx_pk (zK L) 119, r.2, τ, zR)) := by
  unfold zb_Space_exploreFrom_c1_95 at H
  rw [zs_iinc (ls := [some (.ref 64), some (.int v1), some (.int v2), some (.int v3), some (.int v4), some (.int v5), o6]) (x := v5) (z := (v5 + 1)) (ls' := [some (.ref 64), some (.int v1), some (.int v2), some (.int v3), some (.int v4), some (.int (v5 + 1)), o6]) zd_136_95 rfl rfl rfl]
  rw [zs_goto (t := 20) zd_136_98 rfl]
  exact hk20 H
set_option maxRecDepth 20000 in
theorem zt_Space_exploreFrom_c1_48 {a b L N : Nat} {k20 : zS → Int32 → Int32 → Int32 → Int32 → Int32 → Option (Int32 × zS)} (hk20 : ∀ {σ : zS} {τ : zT} {v1 : Int32} {v2 : Int32} {v3 : Int32} {v4 : Int32} {v5 : Int32} {o6 : Option Value} {r : Int32 × zS}, k20 σ v1 v2 v3 v4 v5 = some r → zx_go 4 136 20 [some (.ref 64), some (.int v1), some (.int v2), some (.int v3), some (.int v4), some (.int v5), o6] [] ((119, a, b), zx_pk (zK L) 119, σ, τ, zR) = some (some (.int r.1), ((119, a, b), zx_pk (zK L) 119, r.2, τ, zR))) {σ : zS} {τ : zT} {v1 : Int32} {v2 : Int32} {v3 : Int32} {v4 : Int32} {v5 : Int32} {s0 : Int32} {o6 : Option Value} {r : Int32 × zS} (H : zb_Space_exploreFrom_c1_48 k20 N σ v1 v2 v3 v4 v5 s0 = some r) : zx_go 4 136 48 [some (.ref 64), some (.int v1), some (.int v2), some (.int v3), some (.int v4), some (.int v5), o6] [.int s0] ((119, a, b), zx_pk (zK L) 119, σ, τ, zR) = some (some (.int r.1), ((119, a, b), zx_pk (zK L) 119, r.2, τ, zR)) := by
  unfold zb_Space_exploreFrom_c1_48 at H
  rw [zs_istore (x := s0) (ls' := [some (.ref 64), some (.int v1), some (.int v2), some (.int v3), some (.int v4), some (.int v5), some (.int s0)]) zd_136_48 (Nat.le_of_ble_eq_true rfl) rfl]
  rw [zs_iload (ls := [some (.ref 64), some (.int v1), some (.int v2), some (.int v3), some (.int v4), some (.int v5), some (.int s0)]) zd_136_50 rfl]
  by_cases c8 : s0 = 0
  · rw [if_pos c8] at H
    rw [zp_if_eq_t (x := s0) (t := 95) zd_136_52 rfl c8]
    exact zt_Space_exploreFrom_c1_95 (hk20 := hk20) H
  · rw [if_neg c8] at H
    rw [zp_if_eq_f (x := s0) (t := 95) zd_136_52 rfl c8]
    rw [zs_aload_n (ls := [some (.ref 64), some (.int v1), some (.int v2), some (.int v3), some (.int v4), some (.int v5), some (.int s0)]) zd_136_55 rfl]
    rw [zs_getR (n := 119) (K := zx_pk (zK L) 119) (ρ := zR) (c := 8) (k := 1) (q := 64) (p := 35) zd_136_56 rfl rfl rfl (by decide) rfl]
    rw [zs_iload (ls := [some (.ref 64), some (.int v1), some (.int v2), some (.int v3), some (.int v4), some (.int v5), some (.int s0)]) zd_136_59 rfl]
    obtain ⟨r9, hr9, H⟩ := Option.bind_eq_some_iff.mp H
    rw [zp_callVi (x := r9) (st := [.int v5, .ref 35]) (as := [.ref 35, .int v5]) (rest := []) (e := 1) zd_136_61 rfl (by decide +kernel) (by decide) rfl rfl (Nat.le_of_ble_eq_true rfl) (zx_rcb_ok rfl (show 35 < 119 by decide)) (Nat.le_of_ble_eq_true rfl) rfl (by decide) (zt_Machine_canMove hr9)]
    by_cases c10 : r9 = 0
    · rw [if_pos c10] at H
      rw [zp_if_eq_t (x := r9) (t := 95) zd_136_64 rfl c10]
      exact zt_Space_exploreFrom_c1_95 (hk20 := hk20) H
    · rw [if_neg c10] at H
      rw [zp_if_eq_f (x := r9) (t := 95) zd_136_64 rfl c10]
      rw [zs_iconst (z := 0) zd_136_67 (by decide)]
      rw [zs_istore (x := 0) (ls' := [some (.ref 64), some (.int v1), some (.int v2), some (.int v3), some (.int 0), some (.int v5), some (.int s0)]) zd_136_68 (Nat.le_of_ble_eq_true rfl) rfl]
      rw [zs_aload_n (ls := [some (.ref 64), some (.int v1), some (.int v2), some (.int v3), some (.int 0), some (.int v5), some (.int s0)]) zd_136_70 rfl]
      rw [zs_getR (n := 119) (K := zx_pk (zK L) 119) (ρ := zR) (c := 8) (k := 1) (q := 64) (p := 35) zd_136_71 rfl rfl rfl (by decide) rfl]
      rw [zs_iload (ls := [some (.ref 64), some (.int v1), some (.int v2), some (.int v3), some (.int 0), some (.int v5), some (.int s0)]) zd_136_74 rfl]
      rw [zs_iload_n (ls := [some (.ref 64), some (.int v1), some (.int v2), some (.int v3), some (.int 0), some (.int v5), some (.int s0)]) zd_136_76 rfl]
      obtain ⟨r11, hr11, H⟩ := Option.bind_eq_some_iff.mp H
      rw [zp_callVv (st := [.int v2, .int v5, .ref 35]) (as := [.ref 35, .int v5, .int v2]) (rest := []) (e := 3) zd_136_77 rfl (by decide +kernel) (by decide) rfl rfl (Nat.le_of_ble_eq_true rfl) (zx_rcb_ok rfl (show 35 < 119 by decide)) (Nat.le_of_ble_eq_true rfl) rfl (by decide) (zt_Machine_move hr11)]
      rw [zs_aload_n (ls := [some (.ref 64), some (.int v1), some (.int v2), some (.int v3), some (.int 0), some (.int v5), some (.int s0)]) zd_136_80 rfl]
      rw [zs_iload_n (ls := [some (.ref 64), some (.int v1), some (.int v2), some (.int v3), some (.int 0), some (.int v5), some (.int s0)]) zd_136_81 rfl]
      rw [zs_iconst (z := 4) zd_136_82 (by decide)]
      rw [zp_imul (x := v1) (y := 4) (z := (v1 * 4)) zd_136_83 rfl]
      rw [zs_iload (ls := [some (.ref 64), some (.int v1), some (.int v2), some (.int v3), some (.int 0), some (.int v5), some (.int s0)]) zd_136_84 rfl]
      rw [zp_iadd (x := (v1 * 4)) (y := v5) (z := ((v1 * 4) + v5)) zd_136_86 rfl]
      obtain ⟨r12, hr12, H⟩ := Option.bind_eq_some_iff.mp H
      rw [zp_callVi (x := r12.1) (st := [.int ((v1 * 4) + v5), .ref 64]) (as := [.ref 64, .int ((v1 * 4) + v5)]) (rest := []) (e := 3) zd_136_87 rfl (by decide +kernel) (by decide) rfl rfl (Nat.le_of_ble_eq_true rfl) (zx_rcb_ok rfl (show 64 < 119 by decide)) (Nat.le_of_ble_eq_true rfl) rfl (by decide) (zt_Space_note_c1 hr12)]
      by_cases c13 : ¬ r12.1 = 0
      · rw [if_pos c13] at H
        rw [zp_if_ne_t (x := r12.1) (t := 95) zd_136_90 rfl c13]
        exact zt_Space_exploreFrom_c1_95 (hk20 := hk20) H
      · rw [if_neg c13] at H
        rw [zp_if_ne_f (x := r12.1) (t := 95) zd_136_90 rfl c13]
        rw [zs_iconst (z := 0) zd_136_93 (by decide)]
        have H := Option.some.inj H
        subst H
        exact zs_ireturn zd_136_94 (by decide +kernel)
set_option maxRecDepth 20000 in
theorem zt_Space_exploreFrom_c1_43 {a b L N : Nat} {k20 : zS → Int32 → Int32 → Int32 → Int32 → Int32 → Option (Int32 × zS)} (hk20 : ∀ {σ : zS} {τ : zT} {v1 : Int32} {v2 : Int32} {v3 : Int32} {v4 : Int32} {v5 : Int32} {o6 : Option Value} {r : Int32 × zS}, k20 σ v1 v2 v3 v4 v5 = some r → zx_go 4 136 20 [some (.ref 64), some (.int v1), some (.int v2), some (.int v3), some (.int v4), some (.int v5), o6] [] ((119, a, b), zx_pk (zK L) 119, σ, τ, zR) = some (some (.int r.1), ((119, a, b), zx_pk (zK L) 119, r.2, τ, zR))) {σ : zS} {τ : zT} {v1 : Int32} {v2 : Int32} {v3 : Int32} {v4 : Int32} {v5 : Int32} {o6 : Option Value} {r : Int32 × zS} (H : zb_Space_exploreFrom_c1_43 k20 N σ v1 v2 v3 v4 v5 = some r) : zx_go 4 136 43 [some (.ref 64), some (.int v1), some (.int v2), some (.int v3), some (.int v4), some (.int v5), o6] [] ((119, a, b), zx_pk (zK L) 119, σ, τ, zR) = some (some (.int r.1), ((119, a, b), zx_pk (zK L) 119, r.2, τ, zR)) := by
  unfold zb_Space_exploreFrom_c1_43 at H
  rw [zs_iconst (z := 1) zd_136_43 (by decide)]
  rw [zs_goto (t := 48) zd_136_44 rfl]
  exact zt_Space_exploreFrom_c1_48 (hk20 := hk20) H
set_option maxRecDepth 20000 in
theorem zt_Space_exploreFrom_c1_20 {a b L N : Nat} : ∀ {n : Nat} {σ : zS} {τ : zT} {v1 : Int32} {v2 : Int32} {v3 : Int32} {v4 : Int32} {v5 : Int32} {o6 : Option Value} {r : Int32 × zS}, zb_Space_exploreFrom_c1_20 N n σ v1 v2 v3 v4 v5 = some r → zx_go 4 136 20 [some (.ref 64), some (.int v1), some (.int v2), some (.int v3), some (.int v4), some (.int v5), o6] [] ((119, a, b), zx_pk (zK L) 119, σ, τ, zR) = some (some (.int r.1), ((119, a, b), zx_pk (zK L) 119, r.2, τ, zR)) := by
  intro n
  induction n with
  | zero =>
    intro _ _ _ _ _ _ _ _ _ H
    cases H
  | succ n ih =>
    intro σ τ v1 v2 v3 v4 v5 o6 r H
    rw [zb_Space_exploreFrom_c1_20] at H
    rw [zs_iload (ls := [some (.ref 64), some (.int v1), some (.int v2), some (.int v3), some (.int v4), some (.int v5), o6]) zd_136_20 rfl]
    rw [zs_aload_n (ls := [some (.ref 64), some (.int v1), some (.int v2), some (.int v3), some (.int v4), some (.int v5), o6]) zd_136_22 rfl]
    rw [zs_getR (n := 119) (K := zx_pk (zK L) 119) (ρ := zR) (c := 8) (k := 0) (q := 64) (p := 4) zd_136_23 rfl rfl rfl (by decide) rfl]
    rw [zp_getI (n := 119) (K := zx_pk (zK L) 119) (σ := σ) (c := 6) (k := 2) (q := 4) (v := (σ 4 2)) zd_136_26 rfl rfl rfl (by decide) rfl]
    by_cases c3 : (σ 4 2) ≤ v5
    · rw [if_pos c3] at H
      rw [zp_icmp_ge_t (x := v5) (y := (σ 4 2)) (t := 101) zd_136_29 rfl c3]
      rw [zs_aload_n (ls := [some (.ref 64), some (.int v1), some (.int v2), some (.int v3), some (.int v4), some (.int v5), o6]) zd_136_101 rfl]
      rw [zs_iload_n (ls := [some (.ref 64), some (.int v1), some (.int v2), some (.int v3), some (.int v4), some (.int v5), o6]) zd_136_102 rfl]
      obtain ⟨r4, hr4, H⟩ := Option.bind_eq_some_iff.mp H
      rw [zp_callVi (x := r4) (st := [.int v1, .ref 64]) (as := [.ref 64, .int v1]) (rest := []) (e := 0) zd_136_103 rfl (by decide +kernel) (by decide) rfl rfl (Nat.le_of_ble_eq_true rfl) (zx_rcb_ok rfl (show 64 < 119 by decide)) (Nat.le_of_ble_eq_true rfl) rfl (by decide) (zt_Space_has_c1 hr4)]
      by_cases c5 : r4 = 0
      · rw [if_pos c5] at H
        rw [zp_if_eq_t (x := r4) (t := 117) zd_136_106 rfl c5]
        rw [zs_iconst (z := 1) zd_136_117 (by decide)]
        have H := Option.some.inj H
        subst H
        exact zs_ireturn zd_136_118 (by decide +kernel)
      · rw [if_neg c5] at H
        rw [zp_if_eq_f (x := r4) (t := 117) zd_136_106 rfl c5]
        rw [zs_aload_n (ls := [some (.ref 64), some (.int v1), some (.int v2), some (.int v3), some (.int v4), some (.int v5), o6]) zd_136_109 rfl]
        rw [zs_getR (n := 119) (K := zx_pk (zK L) 119) (ρ := zR) (c := 8) (k := 4) (q := 64) (p := 67) zd_136_110 rfl rfl rfl (by decide) rfl]
        rw [zs_iload_n (ls := [some (.ref 64), some (.int v1), some (.int v2), some (.int v3), some (.int v4), some (.int v5), o6]) zd_136_113 rfl]
        rw [zs_iload (ls := [some (.ref 64), some (.int v1), some (.int v2), some (.int v3), some (.int v4), some (.int v5), o6]) zd_136_114 rfl]
        by_cases c6 : 0 ≤ v1 ∧ v1 < 4000
        · rw [if_pos c6] at H
          rw [zp_zastore (n := 119) (K := zx_pk (zK L) 119) (q := 67) (m := 4000) (i := v1) (k := v1.toNatClampNeg) (x := v4) (z := (v4 &&& 1)) zd_136_116 rfl ⟨by decide, by decide⟩ (zJ_in c6 rfl) rfl rfl]
          rw [zs_iconst (z := 1) zd_136_117 (by decide)]
          have H := Option.some.inj H
          subst H
          exact zs_ireturn zd_136_118 (by decide +kernel)
        · rw [if_neg c6] at H
          cases H
    · rw [if_neg c3] at H
      rw [zp_icmp_ge_f (x := v5) (y := (σ 4 2)) (t := 101) zd_136_29 rfl c3]
      rw [zs_iload_n (ls := [some (.ref 64), some (.int v1), some (.int v2), some (.int v3), some (.int v4), some (.int v5), o6]) zd_136_32 rfl]
      rw [zs_iconst (z := (-1)) zd_136_33 (by decide)]
      by_cases c7 : v3 = (-1)
      · rw [if_pos c7] at H
        rw [zp_icmp_eq_t (x := v3) (y := (-1)) (t := 43) zd_136_34 rfl c7]
        exact zt_Space_exploreFrom_c1_43 (hk20 := ih) H
      · rw [if_neg c7] at H
        rw [zp_icmp_eq_f (x := v3) (y := (-1)) (t := 43) zd_136_34 rfl c7]
        rw [zs_iload_n (ls := [some (.ref 64), some (.int v1), some (.int v2), some (.int v3), some (.int v4), some (.int v5), o6]) zd_136_37 rfl]
        rw [zs_iload (ls := [some (.ref 64), some (.int v1), some (.int v2), some (.int v3), some (.int v4), some (.int v5), o6]) zd_136_38 rfl]
        by_cases c14 : ¬ v3 = v5
        · rw [if_pos c14] at H
          rw [zp_icmp_ne_t (x := v3) (y := v5) (t := 47) zd_136_40 rfl c14]
          rw [zs_iconst (z := 0) zd_136_47 (by decide)]
          exact zt_Space_exploreFrom_c1_48 (hk20 := ih) H
        · rw [if_neg c14] at H
          rw [zp_icmp_ne_f (x := v3) (y := v5) (t := 47) zd_136_40 rfl c14]
          exact zt_Space_exploreFrom_c1_43 (hk20 := ih) H
set_option maxRecDepth 20000 in
theorem zt_Space_exploreFrom_c1 {a b L N : Nat} {σ : zS} {τ : zT} {x1 : Int32} {x2 : Int32} {r : Int32 × zS} (H : zf_Space_exploreFrom_c1 N σ x1 x2 = some r) : zx_go 4 136 0 [some (.ref 64), some (.int x1), some (.int x2), none, none, none, none] [] ((119, a, b), zx_pk (zK L) 119, σ, τ, zR) = some (some (.int r.1), ((119, a, b), zx_pk (zK L) 119, r.2, τ, zR)) := by
  unfold zf_Space_exploreFrom_c1 at H
  rw [zs_aload_n (ls := [some (.ref 64), some (.int x1), some (.int x2), none, none, none, none]) zd_136_0 rfl]
  rw [zs_iload_n (ls := [some (.ref 64), some (.int x1), some (.int x2), none, none, none, none]) zd_136_1 rfl]
  obtain ⟨r1, hr1, H⟩ := Option.bind_eq_some_iff.mp H
  rw [zp_callVv (st := [.int x1, .ref 64]) (as := [.ref 64, .int x1]) (rest := []) (e := 3) zd_136_2 rfl (by decide +kernel) (by decide) rfl rfl (Nat.le_of_ble_eq_true rfl) (zx_rcb_ok rfl (show 64 < 119 by decide)) (Nat.le_of_ble_eq_true rfl) rfl (by decide) (zt_Space_load_c1 hr1)]
  rw [zs_aload_n (ls := [some (.ref 64), some (.int x1), some (.int x2), none, none, none, none]) zd_136_5 rfl]
  rw [zs_getR (n := 119) (K := zx_pk (zK L) 119) (ρ := zR) (c := 8) (k := 1) (q := 64) (p := 35) zd_136_6 rfl rfl rfl (by decide) rfl]
  rw [zs_iload_n (ls := [some (.ref 64), some (.int x1), some (.int x2), none, none, none, none]) zd_136_9 rfl]
  obtain ⟨r2, hr2, H⟩ := Option.bind_eq_some_iff.mp H
  rw [zp_callVi (x := r2) (st := [.int x2, .ref 35]) (as := [.ref 35, .int x2]) (rest := []) (e := 2) zd_136_10 rfl (by decide +kernel) (by decide) rfl rfl (Nat.le_of_ble_eq_true rfl) (zx_rcb_ok rfl (show 35 < 119 by decide)) (Nat.le_of_ble_eq_true rfl) rfl (by decide) (zt_Machine_aloneIn hr2)]
  rw [zs_istore_n (x := r2) (ls' := [some (.ref 64), some (.int x1), some (.int x2), some (.int r2), none, none, none]) zd_136_13 (Nat.le_of_ble_eq_true rfl) rfl]
  rw [zs_iconst (z := 1) zd_136_14 (by decide)]
  rw [zs_istore (x := 1) (ls' := [some (.ref 64), some (.int x1), some (.int x2), some (.int r2), some (.int 1), none, none]) zd_136_15 (Nat.le_of_ble_eq_true rfl) rfl]
  rw [zs_iconst (z := 0) zd_136_17 (by decide)]
  rw [zs_istore (x := 0) (ls' := [some (.ref 64), some (.int x1), some (.int x2), some (.int r2), some (.int 1), some (.int 0), none]) zd_136_18 (Nat.le_of_ble_eq_true rfl) rfl]
  exact zt_Space_exploreFrom_c1_20  H
set_option maxRecDepth 20000 in
theorem zt_Space_explore_c1_28 {a b L N : Nat} : ∀ {n : Nat} {σ : zS} {τ : zT} {v1 : Int32} {v2 : Int32} {v3 : Int32} {r : Int32 × zS}, zb_Space_explore_c1_28 N n σ v1 v2 v3 = some r → zx_go 5 129 28 [some (.ref 64), some (.int v1), some (.int v2), some (.int v3)] [] ((119, a, b), zx_pk (zK L) 119, σ, τ, zR) = some (some (.int r.1), ((119, a, b), zx_pk (zK L) 119, r.2, τ, zR)) := by
  intro n
  induction n with
  | zero =>
    intro _ _ _ _ _ _ H
    cases H
  | succ n ih =>
    intro σ τ v1 v2 v3 r H
    rw [zb_Space_explore_c1_28] at H
    rw [zs_iload_n (ls := [some (.ref 64), some (.int v1), some (.int v2), some (.int v3)]) zd_129_28 rfl]
    rw [zs_aload_n (ls := [some (.ref 64), some (.int v1), some (.int v2), some (.int v3)]) zd_129_29 rfl]
    rw [zp_getI (n := 119) (K := zx_pk (zK L) 119) (σ := σ) (c := 8) (k := 6) (q := 64) (v := (σ 64 6)) zd_129_30 rfl rfl rfl (by decide) rfl]
    by_cases c4 : (σ 64 6) ≤ v3
    · rw [if_pos c4] at H
      rw [zp_icmp_ge_t (x := v3) (y := (σ 64 6)) (t := 60) zd_129_33 rfl c4]
      rw [zs_iload_n (ls := [some (.ref 64), some (.int v1), some (.int v2), some (.int v3)]) zd_129_60 rfl]
      by_cases c5 : v2 = 0 ∨ v2 = 1
      · rw [if_pos c5] at H
        have H := Option.some.inj H
        subst H
        exact zs_ireturn zd_129_61 (zJ_bt c5)
      · rw [if_neg c5] at H
        cases H
    · rw [if_neg c4] at H
      rw [zp_icmp_ge_f (x := v3) (y := (σ 64 6)) (t := 60) zd_129_33 rfl c4]
      rw [zs_iload_n (ls := [some (.ref 64), some (.int v1), some (.int v2), some (.int v3)]) zd_129_36 rfl]
      rw [zs_sipush (z := 4000) zd_129_37 (by decide)]
      by_cases c6 : 4000 ≤ v3
      · rw [if_pos c6] at H
        rw [zp_icmp_ge_t (x := v3) (y := 4000) (t := 60) zd_129_40 rfl c6]
        rw [zs_iload_n (ls := [some (.ref 64), some (.int v1), some (.int v2), some (.int v3)]) zd_129_60 rfl]
        by_cases c7 : v2 = 0 ∨ v2 = 1
        · rw [if_pos c7] at H
          have H := Option.some.inj H
          subst H
          exact zs_ireturn zd_129_61 (zJ_bt c7)
        · rw [if_neg c7] at H
          cases H
      · rw [if_neg c6] at H
        rw [zp_icmp_ge_f (x := v3) (y := 4000) (t := 60) zd_129_40 rfl c6]
        rw [zs_iload_n (ls := [some (.ref 64), some (.int v1), some (.int v2), some (.int v3)]) zd_129_43 rfl]
        by_cases c8 : v2 = 0
        · rw [if_pos c8] at H
          rw [zp_if_eq_t (x := v2) (t := 60) zd_129_44 rfl c8]
          rw [zs_iload_n (ls := [some (.ref 64), some (.int v1), some (.int v2), some (.int v3)]) zd_129_60 rfl]
          by_cases c9 : v2 = 0 ∨ v2 = 1
          · rw [if_pos c9] at H
            have H := Option.some.inj H
            subst H
            exact zs_ireturn zd_129_61 (zJ_bt c9)
          · rw [if_neg c9] at H
            cases H
        · rw [if_neg c8] at H
          rw [zp_if_eq_f (x := v2) (t := 60) zd_129_44 rfl c8]
          rw [zs_aload_n (ls := [some (.ref 64), some (.int v1), some (.int v2), some (.int v3)]) zd_129_47 rfl]
          rw [zs_iload_n (ls := [some (.ref 64), some (.int v1), some (.int v2), some (.int v3)]) zd_129_48 rfl]
          rw [zs_iload_n (ls := [some (.ref 64), some (.int v1), some (.int v2), some (.int v3)]) zd_129_49 rfl]
          obtain ⟨r10, hr10, H⟩ := Option.bind_eq_some_iff.mp H
          rw [zp_callVi (x := r10.1) (st := [.int v1, .int v3, .ref 64]) (as := [.ref 64, .int v3, .int v1]) (rest := []) (e := 4) zd_129_50 rfl (by decide +kernel) (by decide) rfl rfl (Nat.le_of_ble_eq_true rfl) (zx_rcb_ok rfl (show 64 < 119 by decide)) (Nat.le_of_ble_eq_true rfl) rfl (by decide) (zt_Space_exploreFrom_c1 hr10)]
          rw [zs_istore_n (x := r10.1) (ls' := [some (.ref 64), some (.int v1), some (.int r10.1), some (.int v3)]) zd_129_53 (Nat.le_of_ble_eq_true rfl) rfl]
          rw [zs_iinc (ls := [some (.ref 64), some (.int v1), some (.int r10.1), some (.int v3)]) (x := v3) (z := (v3 + 1)) (ls' := [some (.ref 64), some (.int v1), some (.int r10.1), some (.int (v3 + 1))]) zd_129_54 rfl rfl rfl]
          rw [zs_goto (t := 28) zd_129_57 rfl]
          exact ih H
set_option maxRecDepth 20000 in
theorem zt_Space_explore_c1 {a b L N : Nat} {σ : zS} {τ : zT} {x1 : Int32} {r : Int32 × zS} (H : zf_Space_explore_c1 N σ x1 = some r) : zx_go 5 129 0 [some (.ref 64), some (.int x1), none, none] [] ((119, a, b), zx_pk (zK L) 119, σ, τ, zR) = some (some (.int r.1), ((119, a, b), zx_pk (zK L) 119, r.2, τ, zR)) := by
  unfold zf_Space_explore_c1 at H
  rw [zs_aload_n (ls := [some (.ref 64), some (.int x1), none, none]) zd_129_0 rfl]
  rw [zs_iconst (z := 0) zd_129_1 (by decide)]
  rw [zs_putI (n := 119) (K := zx_pk (zK L) 119) (c := 8) (k := 6) (q := 64) (x := 0) zd_129_2 rfl rfl (by decide +kernel) rfl (by decide)]
  rw [zs_aload_n (ls := [some (.ref 64), some (.int x1), none, none]) zd_129_5 rfl]
  rw [zs_getR (n := 119) (K := zx_pk (zK L) 119) (ρ := zR) (c := 8) (k := 5) (q := 64) (p := 68) zd_129_6 rfl rfl rfl (by decide) rfl]
  rw [zs_iconst (z := 0) zd_129_9 (by decide)]
  obtain ⟨r1, hr1, H⟩ := Option.bind_eq_some_iff.mp H
  rw [zp_callSv (st := [.int 0, .ref 68]) (as := [.ref 68, .int 0]) (rest := []) (e := 0) zd_129_10 rfl (by decide +kernel) (by decide) rfl rfl (Nat.le_of_ble_eq_true rfl) rfl (Nat.le_of_ble_eq_true rfl) rfl (by decide) (zt_Arrays_fill_c7 hr1)]
  rw [zs_aload_n (ls := [some (.ref 64), some (.int x1), none, none]) zd_129_13 rfl]
  rw [zs_getR (n := 119) (K := zx_pk (zK L) 119) (ρ := zR) (c := 8) (k := 1) (q := 64) (p := 35) zd_129_14 rfl rfl rfl (by decide) rfl]
  obtain ⟨r2, hr2, H⟩ := Option.bind_eq_some_iff.mp H
  rw [zp_callVv (st := [.ref 35]) (as := [.ref 35]) (rest := []) (e := 1) zd_129_17 rfl (by decide +kernel) (by decide) rfl rfl (Nat.le_of_ble_eq_true rfl) (zx_rcb_ok rfl (show 35 < 119 by decide)) (Nat.le_of_ble_eq_true rfl) rfl (by decide) (zt_Machine_setFirst hr2)]
  rw [zs_aload_n (ls := [some (.ref 64), some (.int x1), none, none]) zd_129_20 rfl]
  rw [zs_iconst (z := 0) zd_129_21 (by decide)]
  obtain ⟨r3, hr3, H⟩ := Option.bind_eq_some_iff.mp H
  rw [zp_callVi (x := r3.1) (st := [.int 0, .ref 64]) (as := [.ref 64, .int 0]) (rest := []) (e := 3) zd_129_22 rfl (by decide +kernel) (by decide) rfl rfl (Nat.le_of_ble_eq_true rfl) (zx_rcb_ok rfl (show 64 < 119 by decide)) (Nat.le_of_ble_eq_true rfl) rfl (by decide) (zt_Space_note_c1 hr3)]
  rw [zs_istore_n (x := r3.1) (ls' := [some (.ref 64), some (.int x1), some (.int r3.1), none]) zd_129_25 (Nat.le_of_ble_eq_true rfl) rfl]
  rw [zs_iconst (z := 0) zd_129_26 (by decide)]
  rw [zs_istore_n (x := 0) (ls' := [some (.ref 64), some (.int x1), some (.int r3.1), some (.int 0)]) zd_129_27 (Nat.le_of_ble_eq_true rfl) rfl]
  exact zt_Space_explore_c1_28  H
set_option maxRecDepth 20000 in
theorem zt_Numbers_clear_c7 {a b L : Nat} {σ : zS} {τ : zT} {r : zS} (H : zf_Numbers_clear_c7 σ = some r) : zx_go 0 158 0 [some (.ref 70)] [] ((119, a, b), zx_pk (zK L) 119, σ, τ, zR) = some (none, ((119, a, b), zx_pk (zK L) 119, r, τ, zR)) := by
  unfold zf_Numbers_clear_c7 at H
  rw [zs_aload_n (ls := [some (.ref 70)]) zd_158_0 rfl]
  rw [zs_iconst (z := 0) zd_158_1 (by decide)]
  rw [zs_putI (n := 119) (K := zx_pk (zK L) 119) (c := 4) (k := 1) (q := 70) (x := 0) zd_158_2 rfl rfl (by decide +kernel) rfl (by decide)]
  have H := Option.some.inj H
  subst H
  exact zs_return zd_158_5 (by decide +kernel)
set_option maxRecDepth 20000 in
theorem zt_Numbers_clear_c8 {a b L : Nat} {σ : zS} {τ : zT} {r : zS} (H : zf_Numbers_clear_c8 σ = some r) : zx_go 0 158 0 [some (.ref 72)] [] ((119, a, b), zx_pk (zK L) 119, σ, τ, zR) = some (none, ((119, a, b), zx_pk (zK L) 119, r, τ, zR)) := by
  unfold zf_Numbers_clear_c8 at H
  rw [zs_aload_n (ls := [some (.ref 72)]) zd_158_0 rfl]
  rw [zs_iconst (z := 0) zd_158_1 (by decide)]
  rw [zs_putI (n := 119) (K := zx_pk (zK L) 119) (c := 4) (k := 1) (q := 72) (x := 0) zd_158_2 rfl rfl (by decide +kernel) rfl (by decide)]
  have H := Option.some.inj H
  subst H
  exact zs_return zd_158_5 (by decide +kernel)
set_option maxRecDepth 20000 in
theorem zt_Arrays_fill_c8_5 {a b L N : Nat} : ∀ {n : Nat} {σ : zS} {τ : zT} {v1 : Int32} {v2 : Int32} {v3 : Int32} {r : zS}, zb_Arrays_fill_c8_5 N n σ v1 v2 v3 = some r → zx_go 0 22 5 [some (.ref 74), some (.int v1), some (.int v2), some (.int v3)] [] ((119, a, b), zx_pk (zK L) 119, σ, τ, zR) = some (none, ((119, a, b), zx_pk (zK L) 119, r, τ, zR)) := by
  intro n
  induction n with
  | zero =>
    intro _ _ _ _ _ _ H
    cases H
  | succ n ih =>
    intro σ τ v1 v2 v3 r H
    rw [zb_Arrays_fill_c8_5] at H
    rw [zs_iload_n (ls := [some (.ref 74), some (.int v1), some (.int v2), some (.int v3)]) zd_22_5 rfl]
    rw [zs_iload_n (ls := [some (.ref 74), some (.int v1), some (.int v2), some (.int v3)]) zd_22_6 rfl]
    by_cases c1 : v3 ≤ v2
    · rw [if_pos c1] at H
      rw [zp_icmp_ge_t (x := v2) (y := v3) (t := 20) zd_22_7 rfl c1]
      have H := Option.some.inj H
      subst H
      exact zs_return zd_22_20 (by decide +kernel)
    · rw [if_neg c1] at H
      rw [zp_icmp_ge_f (x := v2) (y := v3) (t := 20) zd_22_7 rfl c1]
      rw [zs_aload_n (ls := [some (.ref 74), some (.int v1), some (.int v2), some (.int v3)]) zd_22_10 rfl]
      rw [zs_iload_n (ls := [some (.ref 74), some (.int v1), some (.int v2), some (.int v3)]) zd_22_11 rfl]
      rw [zs_iload_n (ls := [some (.ref 74), some (.int v1), some (.int v2), some (.int v3)]) zd_22_12 rfl]
      by_cases c2 : 0 ≤ v2 ∧ v2 < 8192
      · rw [if_pos c2] at H
        rw [zp_iastore (n := 119) (K := zx_pk (zK L) 119) (q := 74) (m := 8192) (i := v2) (k := v2.toNatClampNeg) (x := v1) (z := v1) zd_22_13 rfl ⟨by decide, by decide⟩ (zJ_in c2 rfl) rfl rfl]
        rw [zs_iinc (ls := [some (.ref 74), some (.int v1), some (.int v2), some (.int v3)]) (x := v2) (z := (v2 + 1)) (ls' := [some (.ref 74), some (.int v1), some (.int (v2 + 1)), some (.int v3)]) zd_22_14 rfl rfl rfl]
        rw [zs_goto (t := 5) zd_22_17 rfl]
        exact ih H
      · rw [if_neg c2] at H
        cases H
set_option maxRecDepth 20000 in
theorem zt_Arrays_fill_c8 {a b L N : Nat} {σ : zS} {τ : zT} {x2 : Int32} {r : zS} (H : zf_Arrays_fill_c8 N σ x2 = some r) : zx_go 0 22 0 [some (.ref 74), some (.int x2), none, none] [] ((119, a, b), zx_pk (zK L) 119, σ, τ, zR) = some (none, ((119, a, b), zx_pk (zK L) 119, r, τ, zR)) := by
  unfold zf_Arrays_fill_c8 at H
  rw [zs_iconst (z := 0) zd_22_0 (by decide)]
  rw [zs_istore_n (x := 0) (ls' := [some (.ref 74), some (.int x2), some (.int 0), none]) zd_22_1 (Nat.le_of_ble_eq_true rfl) rfl]
  rw [zs_aload_n (ls := [some (.ref 74), some (.int x2), some (.int 0), none]) zd_22_2 rfl]
  rw [zs_arraylength (n := 119) (K := zx_pk (zK L) 119) (q := 74) (m := 8192) (z := 8192) zd_22_3 rfl (by decide) (by decide)]
  rw [zs_istore_n (x := 8192) (ls' := [some (.ref 74), some (.int x2), some (.int 0), some (.int 8192)]) zd_22_4 (Nat.le_of_ble_eq_true rfl) rfl]
  exact zt_Arrays_fill_c8_5  H
set_option maxRecDepth 20000 in
theorem zt_Space_isLast_c1 {a b L : Nat} {σ : zS} {τ : zT} {x1 : Int32} {r : Int32} (H : zf_Space_isLast_c1 σ x1 = some r) : zx_go 1 161 0 [some (.ref 64), some (.int x1)] [] ((119, a, b), zx_pk (zK L) 119, σ, τ, zR) = some (some (.int r), ((119, a, b), zx_pk (zK L) 119, σ, τ, zR)) := by
  unfold zf_Space_isLast_c1 at H
  rw [zs_aload_n (ls := [some (.ref 64), some (.int x1)]) zd_161_0 rfl]
  rw [zs_iload_n (ls := [some (.ref 64), some (.int x1)]) zd_161_1 rfl]
  obtain ⟨r1, hr1, H⟩ := Option.bind_eq_some_iff.mp H
  rw [zp_callVi (x := r1) (st := [.int x1, .ref 64]) (as := [.ref 64, .int x1]) (rest := []) (e := 0) zd_161_2 rfl (by decide +kernel) (by decide) rfl rfl (Nat.le_of_ble_eq_true rfl) (zx_rcb_ok rfl (show 64 < 119 by decide)) (Nat.le_of_ble_eq_true rfl) rfl (by decide) (zt_Space_has_c1 hr1)]
  by_cases c2 : r1 = 0
  · rw [if_pos c2] at H
    rw [zp_if_eq_t (x := r1) (t := 21) zd_161_5 rfl c2]
    rw [zs_iconst (z := 0) zd_161_21 (by decide)]
    have H := Option.some.inj H
    subst H
    exact zs_ireturn zd_161_22 (by decide +kernel)
  · rw [if_neg c2] at H
    rw [zp_if_eq_f (x := r1) (t := 21) zd_161_5 rfl c2]
    rw [zs_aload_n (ls := [some (.ref 64), some (.int x1)]) zd_161_8 rfl]
    rw [zs_getR (n := 119) (K := zx_pk (zK L) 119) (ρ := zR) (c := 8) (k := 4) (q := 64) (p := 67) zd_161_9 rfl rfl rfl (by decide) rfl]
    rw [zs_iload_n (ls := [some (.ref 64), some (.int x1)]) zd_161_12 rfl]
    by_cases c3 : 0 ≤ x1 ∧ x1 < 4000
    · rw [if_pos c3] at H
      rw [zp_zaload (n := 119) (K := zx_pk (zK L) 119) (σ := σ) (q := 67) (m := 4000) (i := x1) (k := x1.toNatClampNeg) (v := (σ 67 x1.toNatClampNeg)) zd_161_13 rfl (by decide) (zJ_in c3 rfl) rfl rfl]
      by_cases c4 : (σ 67 x1.toNatClampNeg) = 0
      · rw [if_pos c4] at H
        rw [zp_if_eq_t (x := (σ 67 x1.toNatClampNeg)) (t := 21) zd_161_14 rfl c4]
        rw [zs_iconst (z := 0) zd_161_21 (by decide)]
        have H := Option.some.inj H
        subst H
        exact zs_ireturn zd_161_22 (by decide +kernel)
      · rw [if_neg c4] at H
        rw [zp_if_eq_f (x := (σ 67 x1.toNatClampNeg)) (t := 21) zd_161_14 rfl c4]
        rw [zs_iconst (z := 1) zd_161_17 (by decide)]
        rw [zs_goto (t := 22) zd_161_18 rfl]
        have H := Option.some.inj H
        subst H
        exact zs_ireturn zd_161_22 (by decide +kernel)
    · rw [if_neg c3] at H
      cases H
set_option maxRecDepth 20000 in
theorem zt_Numbers_get_c7_21 {a b L : Nat} {σ : zS} {τ : zT} {o0 : Option Value} {o1 : Option Value} {r : Int32} (H : zb_Numbers_get_c7_21 σ = some r) : zx_go 0 172 21 [o0, o1] [] ((119, a, b), zx_pk (zK L) 119, σ, τ, zR) = some (some (.int r), ((119, a, b), zx_pk (zK L) 119, σ, τ, zR)) := by
  unfold zb_Numbers_get_c7_21 at H
  rw [zs_iconst (z := (-1)) zd_172_21 (by decide)]
  rw [zs_goto (t := 31) zd_172_22 rfl]
  have H := Option.some.inj H
  subst H
  exact zs_ireturn zd_172_31 (by decide +kernel)
set_option maxRecDepth 20000 in
theorem zt_Numbers_get_c7 {a b L : Nat} {σ : zS} {τ : zT} {x1 : Int32} {r : Int32} (H : zf_Numbers_get_c7 σ x1 = some r) : zx_go 0 172 0 [some (.ref 70), some (.int x1)] [] ((119, a, b), zx_pk (zK L) 119, σ, τ, zR) = some (some (.int r), ((119, a, b), zx_pk (zK L) 119, σ, τ, zR)) := by
  unfold zf_Numbers_get_c7 at H
  rw [zs_iload_n (ls := [some (.ref 70), some (.int x1)]) zd_172_0 rfl]
  by_cases c1 : x1 < 0
  · rw [if_pos c1] at H
    rw [zp_if_lt_t (x := x1) (t := 21) zd_172_1 rfl c1]
    exact zt_Numbers_get_c7_21  H
  · rw [if_neg c1] at H
    rw [zp_if_lt_f (x := x1) (t := 21) zd_172_1 rfl c1]
    rw [zs_iload_n (ls := [some (.ref 70), some (.int x1)]) zd_172_4 rfl]
    rw [zs_aload_n (ls := [some (.ref 70), some (.int x1)]) zd_172_5 rfl]
    rw [zp_getI (n := 119) (K := zx_pk (zK L) 119) (σ := σ) (c := 4) (k := 1) (q := 70) (v := (σ 70 1)) zd_172_6 rfl rfl rfl (by decide) rfl]
    by_cases c2 : (σ 70 1) ≤ x1
    · rw [if_pos c2] at H
      rw [zp_icmp_ge_t (x := x1) (y := (σ 70 1)) (t := 21) zd_172_9 rfl c2]
      exact zt_Numbers_get_c7_21  H
    · rw [if_neg c2] at H
      rw [zp_icmp_ge_f (x := x1) (y := (σ 70 1)) (t := 21) zd_172_9 rfl c2]
      rw [zs_iload_n (ls := [some (.ref 70), some (.int x1)]) zd_172_12 rfl]
      rw [zs_aload_n (ls := [some (.ref 70), some (.int x1)]) zd_172_13 rfl]
      rw [zs_getR (n := 119) (K := zx_pk (zK L) 119) (ρ := zR) (c := 4) (k := 0) (q := 70) (p := 71) zd_172_14 rfl rfl rfl (by decide) rfl]
      rw [zs_arraylength (n := 119) (K := zx_pk (zK L) 119) (q := 71) (m := 4000) (z := 4000) zd_172_17 rfl (by decide) (by decide)]
      by_cases c3 : x1 < 4000
      · rw [if_pos c3] at H
        rw [zp_icmp_lt_t (x := x1) (y := 4000) (t := 25) zd_172_18 rfl c3]
        rw [zs_aload_n (ls := [some (.ref 70), some (.int x1)]) zd_172_25 rfl]
        rw [zs_getR (n := 119) (K := zx_pk (zK L) 119) (ρ := zR) (c := 4) (k := 0) (q := 70) (p := 71) zd_172_26 rfl rfl rfl (by decide) rfl]
        rw [zs_iload_n (ls := [some (.ref 70), some (.int x1)]) zd_172_29 rfl]
        by_cases c4 : 0 ≤ x1 ∧ x1 < 4000
        · rw [if_pos c4] at H
          rw [zp_iaload (n := 119) (K := zx_pk (zK L) 119) (σ := σ) (q := 71) (m := 4000) (i := x1) (k := x1.toNatClampNeg) (v := (σ 71 x1.toNatClampNeg)) zd_172_30 rfl (by decide) (zJ_in c4 rfl) rfl rfl]
          have H := Option.some.inj H
          subst H
          exact zs_ireturn zd_172_31 rfl
        · rw [if_neg c4] at H
          cases H
      · rw [if_neg c3] at H
        rw [zp_icmp_lt_f (x := x1) (y := 4000) (t := 25) zd_172_18 rfl c3]
        exact zt_Numbers_get_c7_21  H
set_option maxRecDepth 20000 in
theorem zt_Outcomes_slotOf_c1_19 {a b L N : Nat} : ∀ {n : Nat} {σ : zS} {τ : zT} {v1 : Int32} {v3 : Int32} {v4 : Int32} {o2 : Option Value} {r : Int32}, zb_Outcomes_slotOf_c1_19 N n σ v1 v3 v4 = some r → zx_go 1 171 19 [some (.ref 69), some (.int v1), o2, some (.int v3), some (.int v4)] [] ((119, a, b), zx_pk (zK L) 119, σ, τ, zR) = some (some (.int r), ((119, a, b), zx_pk (zK L) 119, σ, τ, zR)) := by
  intro n
  induction n with
  | zero =>
    intro _ _ _ _ _ _ _ H
    cases H
  | succ n ih =>
    intro σ τ v1 v3 v4 o2 r H
    rw [zb_Outcomes_slotOf_c1_19] at H
    rw [zs_iload (ls := [some (.ref 69), some (.int v1), o2, some (.int v3), some (.int v4)]) zd_171_19 rfl]
    rw [zs_sipush (z := 8192) zd_171_21 (by decide)]
    by_cases c1 : 8192 ≤ v4
    · rw [if_pos c1] at H
      rw [zp_icmp_ge_t (x := v4) (y := 8192) (t := 71) zd_171_24 rfl c1]
      rw [zs_iload_n (ls := [some (.ref 69), some (.int v1), o2, some (.int v3), some (.int v4)]) zd_171_71 rfl]
      have H := Option.some.inj H
      subst H
      exact zs_ireturn zd_171_72 rfl
    · rw [if_neg c1] at H
      rw [zp_icmp_ge_f (x := v4) (y := 8192) (t := 71) zd_171_24 rfl c1]
      rw [zs_aload_n (ls := [some (.ref 69), some (.int v1), o2, some (.int v3), some (.int v4)]) zd_171_27 rfl]
      rw [zs_getR (n := 119) (K := zx_pk (zK L) 119) (ρ := zR) (c := 5) (k := 3) (q := 69) (p := 74) zd_171_28 rfl rfl rfl (by decide) rfl]
      rw [zs_iload_n (ls := [some (.ref 69), some (.int v1), o2, some (.int v3), some (.int v4)]) zd_171_31 rfl]
      by_cases c2 : 0 ≤ v3 ∧ v3 < 8192
      · rw [if_pos c2] at H
        rw [zp_iaload (n := 119) (K := zx_pk (zK L) 119) (σ := σ) (q := 74) (m := 8192) (i := v3) (k := v3.toNatClampNeg) (v := (σ 74 v3.toNatClampNeg)) zd_171_32 rfl (by decide) (zJ_in c2 rfl) rfl rfl]
        by_cases c3 : (σ 74 v3.toNatClampNeg) = 0
        · rw [if_pos c3] at H
          rw [zp_if_eq_t (x := (σ 74 v3.toNatClampNeg)) (t := 71) zd_171_33 rfl c3]
          rw [zs_iload_n (ls := [some (.ref 69), some (.int v1), o2, some (.int v3), some (.int v4)]) zd_171_71 rfl]
          have H := Option.some.inj H
          subst H
          exact zs_ireturn zd_171_72 rfl
        · rw [if_neg c3] at H
          rw [zp_if_eq_f (x := (σ 74 v3.toNatClampNeg)) (t := 71) zd_171_33 rfl c3]
          rw [zs_aload_n (ls := [some (.ref 69), some (.int v1), o2, some (.int v3), some (.int v4)]) zd_171_36 rfl]
          rw [zs_getR (n := 119) (K := zx_pk (zK L) 119) (ρ := zR) (c := 5) (k := 1) (q := 69) (p := 70) zd_171_37 rfl rfl rfl (by decide) rfl]
          rw [zs_aload_n (ls := [some (.ref 69), some (.int v1), o2, some (.int v3), some (.int v4)]) zd_171_40 rfl]
          rw [zs_getR (n := 119) (K := zx_pk (zK L) 119) (ρ := zR) (c := 5) (k := 3) (q := 69) (p := 74) zd_171_41 rfl rfl rfl (by decide) rfl]
          rw [zs_iload_n (ls := [some (.ref 69), some (.int v1), o2, some (.int v3), some (.int v4)]) zd_171_44 rfl]
          by_cases c4 : 0 ≤ v3 ∧ v3 < 8192
          · rw [if_pos c4] at H
            rw [zp_iaload (n := 119) (K := zx_pk (zK L) 119) (σ := σ) (q := 74) (m := 8192) (i := v3) (k := v3.toNatClampNeg) (v := (σ 74 v3.toNatClampNeg)) zd_171_45 rfl (by decide) (zJ_in c4 rfl) rfl rfl]
            rw [zs_iconst (z := 1) zd_171_46 (by decide)]
            rw [zp_isub (x := (σ 74 v3.toNatClampNeg)) (y := 1) (z := ((σ 74 v3.toNatClampNeg) - 1)) zd_171_47 rfl]
            obtain ⟨r5, hr5, H⟩ := Option.bind_eq_some_iff.mp H
            rw [zp_callVi (x := r5) (st := [.int ((σ 74 v3.toNatClampNeg) - 1), .ref 70]) (as := [.ref 70, .int ((σ 74 v3.toNatClampNeg) - 1)]) (rest := []) (e := 0) zd_171_48 rfl (by decide +kernel) (by decide) rfl rfl (Nat.le_of_ble_eq_true rfl) (zx_rcb_ok rfl (show 70 < 119 by decide)) (Nat.le_of_ble_eq_true rfl) rfl (by decide) (zt_Numbers_get_c7 hr5)]
            rw [zs_iload_n (ls := [some (.ref 69), some (.int v1), o2, some (.int v3), some (.int v4)]) zd_171_51 rfl]
            by_cases c6 : ¬ r5 = v1
            · rw [if_pos c6] at H
              rw [zp_icmp_ne_t (x := r5) (y := v1) (t := 57) zd_171_52 rfl c6]
              rw [zs_iload_n (ls := [some (.ref 69), some (.int v1), o2, some (.int v3), some (.int v4)]) zd_171_57 rfl]
              rw [zs_iconst (z := 1) zd_171_58 (by decide)]
              rw [zp_iadd (x := v3) (y := 1) (z := (v3 + 1)) zd_171_59 rfl]
              rw [zs_sipush (z := 8191) zd_171_60 (by decide)]
              rw [zp_iand (x := (v3 + 1)) (y := 8191) (z := ((v3 + 1) &&& 8191)) zd_171_63 rfl]
              rw [zs_istore_n (x := ((v3 + 1) &&& 8191)) (ls' := [some (.ref 69), some (.int v1), (zJ_cl o2), some (.int ((v3 + 1) &&& 8191)), some (.int v4)]) zd_171_64 (Nat.le_of_ble_eq_true rfl) (zJ_s1 (k := 2) (o := o2) rfl)]
              rw [zs_iinc (ls := [some (.ref 69), some (.int v1), (zJ_cl o2), some (.int ((v3 + 1) &&& 8191)), some (.int v4)]) (x := v4) (z := (v4 + 1)) (ls' := [some (.ref 69), some (.int v1), (zJ_cl o2), some (.int ((v3 + 1) &&& 8191)), some (.int (v4 + 1))]) zd_171_65 rfl rfl rfl]
              rw [zs_goto (t := 19) zd_171_68 rfl]
              exact ih H
            · rw [if_neg c6] at H
              rw [zp_icmp_ne_f (x := r5) (y := v1) (t := 57) zd_171_52 rfl c6]
              rw [zs_iload_n (ls := [some (.ref 69), some (.int v1), o2, some (.int v3), some (.int v4)]) zd_171_55 rfl]
              have H := Option.some.inj H
              subst H
              exact zs_ireturn zd_171_56 rfl
          · rw [if_neg c4] at H
            cases H
      · rw [if_neg c2] at H
        cases H
set_option maxRecDepth 20000 in
theorem zt_Outcomes_slotOf_c1 {a b L N : Nat} {σ : zS} {τ : zT} {x1 : Int32} {r : Int32} (H : zf_Outcomes_slotOf_c1 N σ x1 = some r) : zx_go 1 171 0 [some (.ref 69), some (.int x1), none, none, none] [] ((119, a, b), zx_pk (zK L) 119, σ, τ, zR) = some (some (.int r), ((119, a, b), zx_pk (zK L) 119, σ, τ, zR)) := by
  unfold zf_Outcomes_slotOf_c1 at H
  rw [zs_iload_n (ls := [some (.ref 69), some (.int x1), none, none, none]) zd_171_0 rfl]
  rw [zs_ldc (x := (-1640531535)) zd_171_1 rfl]
  rw [zp_imul (x := x1) (y := (-1640531535)) (z := (x1 * (-1640531535))) zd_171_3 rfl]
  rw [zs_istore_n (x := (x1 * (-1640531535))) (ls' := [some (.ref 69), some (.int x1), some (.int (x1 * (-1640531535))), none, none]) zd_171_4 (Nat.le_of_ble_eq_true rfl) rfl]
  rw [zs_iload_n (ls := [some (.ref 69), some (.int x1), some (.int (x1 * (-1640531535))), none, none]) zd_171_5 rfl]
  rw [zs_iload_n (ls := [some (.ref 69), some (.int x1), some (.int (x1 * (-1640531535))), none, none]) zd_171_6 rfl]
  rw [zs_bipush (z := 15) zd_171_7 (by decide)]
  rw [zp_iushr (x := (x1 * (-1640531535))) (y := 15) (z := (zJ_ushr (x1 * (-1640531535)) 15)) zd_171_9 rfl]
  rw [zp_ixor (x := (x1 * (-1640531535))) (y := (zJ_ushr (x1 * (-1640531535)) 15)) (z := ((x1 * (-1640531535)) ^^^ (zJ_ushr (x1 * (-1640531535)) 15))) zd_171_10 rfl]
  rw [zs_sipush (z := 8191) zd_171_11 (by decide)]
  rw [zp_iand (x := ((x1 * (-1640531535)) ^^^ (zJ_ushr (x1 * (-1640531535)) 15))) (y := 8191) (z := (((x1 * (-1640531535)) ^^^ (zJ_ushr (x1 * (-1640531535)) 15)) &&& 8191)) zd_171_14 rfl]
  rw [zs_istore_n (x := (((x1 * (-1640531535)) ^^^ (zJ_ushr (x1 * (-1640531535)) 15)) &&& 8191)) (ls' := [some (.ref 69), some (.int x1), some (.int (x1 * (-1640531535))), some (.int (((x1 * (-1640531535)) ^^^ (zJ_ushr (x1 * (-1640531535)) 15)) &&& 8191)), none]) zd_171_15 (Nat.le_of_ble_eq_true rfl) rfl]
  rw [zs_iconst (z := 0) zd_171_16 (by decide)]
  rw [zs_istore (x := 0) (ls' := [some (.ref 69), some (.int x1), some (.int (x1 * (-1640531535))), some (.int (((x1 * (-1640531535)) ^^^ (zJ_ushr (x1 * (-1640531535)) 15)) &&& 8191)), some (.int 0)]) zd_171_17 (Nat.le_of_ble_eq_true rfl) rfl]
  exact zt_Outcomes_slotOf_c1_19  H
set_option maxRecDepth 20000 in
theorem zt_Numbers_add_c7 {a b L : Nat} {σ : zS} {τ : zT} {x1 : Int32} {r : zS} (H : zf_Numbers_add_c7 σ x1 = some r) : zx_go 0 160 0 [some (.ref 70), some (.int x1)] [] ((119, a, b), zx_pk (zK L) 119, σ, τ, zR) = some (none, ((119, a, b), zx_pk (zK L) 119, r, τ, zR)) := by
  unfold zf_Numbers_add_c7 at H
  rw [zs_aload_n (ls := [some (.ref 70), some (.int x1)]) zd_160_0 rfl]
  rw [zp_getI (n := 119) (K := zx_pk (zK L) 119) (σ := σ) (c := 4) (k := 1) (q := 70) (v := (σ 70 1)) zd_160_1 rfl rfl rfl (by decide) rfl]
  by_cases c1 : (σ 70 1) < 0
  · rw [if_pos c1] at H
    rw [zp_if_lt_t (x := (σ 70 1)) (t := 39) zd_160_4 rfl c1]
    have H := Option.some.inj H
    subst H
    exact zs_return zd_160_39 (by decide +kernel)
  · rw [if_neg c1] at H
    rw [zp_if_lt_f (x := (σ 70 1)) (t := 39) zd_160_4 rfl c1]
    rw [zs_aload_n (ls := [some (.ref 70), some (.int x1)]) zd_160_7 rfl]
    rw [zp_getI (n := 119) (K := zx_pk (zK L) 119) (σ := σ) (c := 4) (k := 1) (q := 70) (v := (σ 70 1)) zd_160_8 rfl rfl rfl (by decide) rfl]
    rw [zs_aload_n (ls := [some (.ref 70), some (.int x1)]) zd_160_11 rfl]
    rw [zs_getR (n := 119) (K := zx_pk (zK L) 119) (ρ := zR) (c := 4) (k := 0) (q := 70) (p := 71) zd_160_12 rfl rfl rfl (by decide) rfl]
    rw [zs_arraylength (n := 119) (K := zx_pk (zK L) 119) (q := 71) (m := 4000) (z := 4000) zd_160_15 rfl (by decide) (by decide)]
    by_cases c2 : 4000 ≤ (σ 70 1)
    · rw [if_pos c2] at H
      rw [zp_icmp_ge_t (x := (σ 70 1)) (y := 4000) (t := 39) zd_160_16 rfl c2]
      have H := Option.some.inj H
      subst H
      exact zs_return zd_160_39 (by decide +kernel)
    · rw [if_neg c2] at H
      rw [zp_icmp_ge_f (x := (σ 70 1)) (y := 4000) (t := 39) zd_160_16 rfl c2]
      rw [zs_aload_n (ls := [some (.ref 70), some (.int x1)]) zd_160_19 rfl]
      rw [zs_getR (n := 119) (K := zx_pk (zK L) 119) (ρ := zR) (c := 4) (k := 0) (q := 70) (p := 71) zd_160_20 rfl rfl rfl (by decide) rfl]
      rw [zs_aload_n (ls := [some (.ref 70), some (.int x1)]) zd_160_23 rfl]
      rw [zp_getI (n := 119) (K := zx_pk (zK L) 119) (σ := σ) (c := 4) (k := 1) (q := 70) (v := (σ 70 1)) zd_160_24 rfl rfl rfl (by decide) rfl]
      rw [zs_iload_n (ls := [some (.ref 70), some (.int x1)]) zd_160_27 rfl]
      by_cases c3 : 0 ≤ (σ 70 1) ∧ (σ 70 1) < 4000
      · rw [if_pos c3] at H
        rw [zp_iastore (n := 119) (K := zx_pk (zK L) 119) (q := 71) (m := 4000) (i := (σ 70 1)) (k := (σ 70 1).toNatClampNeg) (x := x1) (z := x1) zd_160_28 rfl ⟨by decide, by decide⟩ (zJ_in c3 rfl) rfl rfl]
        rw [zs_aload_n (ls := [some (.ref 70), some (.int x1)]) zd_160_29 rfl]
        rw [zs_dup (a := .ref 70) zd_160_30 rfl]
        rw [zp_getI (n := 119) (K := zx_pk (zK L) 119) (σ := (zx_up σ 71 (σ 70 1).toNatClampNeg x1)) (c := 4) (k := 1) (q := 70) (v := (σ 70 1)) zd_160_31 rfl rfl rfl (by decide) (show ((zx_up σ 71 (σ 70 1).toNatClampNeg x1) : zS) 70 1 = (σ 70 1) from ((zx_up_ne (by decide)).trans rfl))]
        rw [zs_iconst (z := 1) zd_160_34 (by decide)]
        rw [zp_iadd (x := (σ 70 1)) (y := 1) (z := ((σ 70 1) + 1)) zd_160_35 rfl]
        rw [zs_putI (n := 119) (K := zx_pk (zK L) 119) (c := 4) (k := 1) (q := 70) (x := ((σ 70 1) + 1)) zd_160_36 rfl rfl (by decide +kernel) rfl (by decide)]
        have H := Option.some.inj H
        subst H
        exact zs_return zd_160_39 (by decide +kernel)
      · rw [if_neg c3] at H
        cases H
set_option maxRecDepth 20000 in
theorem zt_Numbers_add_c8 {a b L : Nat} {σ : zS} {τ : zT} {x1 : Int32} {r : zS} (H : zf_Numbers_add_c8 σ x1 = some r) : zx_go 0 160 0 [some (.ref 72), some (.int x1)] [] ((119, a, b), zx_pk (zK L) 119, σ, τ, zR) = some (none, ((119, a, b), zx_pk (zK L) 119, r, τ, zR)) := by
  unfold zf_Numbers_add_c8 at H
  rw [zs_aload_n (ls := [some (.ref 72), some (.int x1)]) zd_160_0 rfl]
  rw [zp_getI (n := 119) (K := zx_pk (zK L) 119) (σ := σ) (c := 4) (k := 1) (q := 72) (v := (σ 72 1)) zd_160_1 rfl rfl rfl (by decide) rfl]
  by_cases c1 : (σ 72 1) < 0
  · rw [if_pos c1] at H
    rw [zp_if_lt_t (x := (σ 72 1)) (t := 39) zd_160_4 rfl c1]
    have H := Option.some.inj H
    subst H
    exact zs_return zd_160_39 (by decide +kernel)
  · rw [if_neg c1] at H
    rw [zp_if_lt_f (x := (σ 72 1)) (t := 39) zd_160_4 rfl c1]
    rw [zs_aload_n (ls := [some (.ref 72), some (.int x1)]) zd_160_7 rfl]
    rw [zp_getI (n := 119) (K := zx_pk (zK L) 119) (σ := σ) (c := 4) (k := 1) (q := 72) (v := (σ 72 1)) zd_160_8 rfl rfl rfl (by decide) rfl]
    rw [zs_aload_n (ls := [some (.ref 72), some (.int x1)]) zd_160_11 rfl]
    rw [zs_getR (n := 119) (K := zx_pk (zK L) 119) (ρ := zR) (c := 4) (k := 0) (q := 72) (p := 73) zd_160_12 rfl rfl rfl (by decide) rfl]
    rw [zs_arraylength (n := 119) (K := zx_pk (zK L) 119) (q := 73) (m := 4000) (z := 4000) zd_160_15 rfl (by decide) (by decide)]
    by_cases c2 : 4000 ≤ (σ 72 1)
    · rw [if_pos c2] at H
      rw [zp_icmp_ge_t (x := (σ 72 1)) (y := 4000) (t := 39) zd_160_16 rfl c2]
      have H := Option.some.inj H
      subst H
      exact zs_return zd_160_39 (by decide +kernel)
    · rw [if_neg c2] at H
      rw [zp_icmp_ge_f (x := (σ 72 1)) (y := 4000) (t := 39) zd_160_16 rfl c2]
      rw [zs_aload_n (ls := [some (.ref 72), some (.int x1)]) zd_160_19 rfl]
      rw [zs_getR (n := 119) (K := zx_pk (zK L) 119) (ρ := zR) (c := 4) (k := 0) (q := 72) (p := 73) zd_160_20 rfl rfl rfl (by decide) rfl]
      rw [zs_aload_n (ls := [some (.ref 72), some (.int x1)]) zd_160_23 rfl]
      rw [zp_getI (n := 119) (K := zx_pk (zK L) 119) (σ := σ) (c := 4) (k := 1) (q := 72) (v := (σ 72 1)) zd_160_24 rfl rfl rfl (by decide) rfl]
      rw [zs_iload_n (ls := [some (.ref 72), some (.int x1)]) zd_160_27 rfl]
      by_cases c3 : 0 ≤ (σ 72 1) ∧ (σ 72 1) < 4000
      · rw [if_pos c3] at H
        rw [zp_iastore (n := 119) (K := zx_pk (zK L) 119) (q := 73) (m := 4000) (i := (σ 72 1)) (k := (σ 72 1).toNatClampNeg) (x := x1) (z := x1) zd_160_28 rfl ⟨by decide, by decide⟩ (zJ_in c3 rfl) rfl rfl]
        rw [zs_aload_n (ls := [some (.ref 72), some (.int x1)]) zd_160_29 rfl]
        rw [zs_dup (a := .ref 72) zd_160_30 rfl]
        rw [zp_getI (n := 119) (K := zx_pk (zK L) 119) (σ := (zx_up σ 73 (σ 72 1).toNatClampNeg x1)) (c := 4) (k := 1) (q := 72) (v := (σ 72 1)) zd_160_31 rfl rfl rfl (by decide) (show ((zx_up σ 73 (σ 72 1).toNatClampNeg x1) : zS) 72 1 = (σ 72 1) from ((zx_up_ne (by decide)).trans rfl))]
        rw [zs_iconst (z := 1) zd_160_34 (by decide)]
        rw [zp_iadd (x := (σ 72 1)) (y := 1) (z := ((σ 72 1) + 1)) zd_160_35 rfl]
        rw [zs_putI (n := 119) (K := zx_pk (zK L) 119) (c := 4) (k := 1) (q := 72) (x := ((σ 72 1) + 1)) zd_160_36 rfl rfl (by decide +kernel) rfl (by decide)]
        have H := Option.some.inj H
        subst H
        exact zs_return zd_160_39 (by decide +kernel)
      · rw [if_neg c3] at H
        cases H
set_option maxRecDepth 20000 in
theorem zt_Outcomes_note_c1 {a b L N : Nat} {σ : zS} {τ : zT} {x1 : Int32} {x2 : Int32} {r : zS} (H : zf_Outcomes_note_c1 N σ x1 x2 = some r) : zx_go 2 170 0 [some (.ref 69), some (.int x1), some (.int x2), none] [] ((119, a, b), zx_pk (zK L) 119, σ, τ, zR) = some (none, ((119, a, b), zx_pk (zK L) 119, r, τ, zR)) := by
  unfold zf_Outcomes_note_c1 at H
  rw [zs_aload_n (ls := [some (.ref 69), some (.int x1), some (.int x2), none]) zd_170_0 rfl]
  rw [zs_iload_n (ls := [some (.ref 69), some (.int x1), some (.int x2), none]) zd_170_1 rfl]
  obtain ⟨r1, hr1, H⟩ := Option.bind_eq_some_iff.mp H
  rw [zp_callVi (x := r1) (st := [.int x1, .ref 69]) (as := [.ref 69, .int x1]) (rest := []) (e := 1) zd_170_2 rfl (by decide +kernel) (by decide) rfl rfl (Nat.le_of_ble_eq_true rfl) (zx_rcb_ok rfl (show 69 < 119 by decide)) (Nat.le_of_ble_eq_true rfl) rfl (by decide) (zt_Outcomes_slotOf_c1 hr1)]
  rw [zs_istore_n (x := r1) (ls' := [some (.ref 69), some (.int x1), some (.int x2), some (.int r1)]) zd_170_5 (Nat.le_of_ble_eq_true rfl) rfl]
  rw [zs_aload_n (ls := [some (.ref 69), some (.int x1), some (.int x2), some (.int r1)]) zd_170_6 rfl]
  rw [zs_getR (n := 119) (K := zx_pk (zK L) 119) (ρ := zR) (c := 5) (k := 3) (q := 69) (p := 74) zd_170_7 rfl rfl rfl (by decide) rfl]
  rw [zs_iload_n (ls := [some (.ref 69), some (.int x1), some (.int x2), some (.int r1)]) zd_170_10 rfl]
  by_cases c2 : 0 ≤ r1 ∧ r1 < 8192
  · rw [if_pos c2] at H
    rw [zp_iaload (n := 119) (K := zx_pk (zK L) 119) (σ := σ) (q := 74) (m := 8192) (i := r1) (k := r1.toNatClampNeg) (v := (σ 74 r1.toNatClampNeg)) zd_170_11 rfl (by decide) (zJ_in c2 rfl) rfl rfl]
    by_cases c3 : ¬ (σ 74 r1.toNatClampNeg) = 0
    · rw [if_pos c3] at H
      rw [zp_if_ne_t (x := (σ 74 r1.toNatClampNeg)) (t := 44) zd_170_12 rfl c3]
      have H := Option.some.inj H
      subst H
      exact zs_return zd_170_44 (by decide +kernel)
    · rw [if_neg c3] at H
      rw [zp_if_ne_f (x := (σ 74 r1.toNatClampNeg)) (t := 44) zd_170_12 rfl c3]
      rw [zs_aload_n (ls := [some (.ref 69), some (.int x1), some (.int x2), some (.int r1)]) zd_170_15 rfl]
      rw [zs_getR (n := 119) (K := zx_pk (zK L) 119) (ρ := zR) (c := 5) (k := 1) (q := 69) (p := 70) zd_170_16 rfl rfl rfl (by decide) rfl]
      rw [zs_iload_n (ls := [some (.ref 69), some (.int x1), some (.int x2), some (.int r1)]) zd_170_19 rfl]
      obtain ⟨r4, hr4, H⟩ := Option.bind_eq_some_iff.mp H
      rw [zp_callVv (st := [.int x1, .ref 70]) (as := [.ref 70, .int x1]) (rest := []) (e := 0) zd_170_20 rfl (by decide +kernel) (by decide) rfl rfl (Nat.le_of_ble_eq_true rfl) (zx_rcb_ok rfl (show 70 < 119 by decide)) (Nat.le_of_ble_eq_true rfl) rfl (by decide) (zt_Numbers_add_c7 hr4)]
      rw [zs_aload_n (ls := [some (.ref 69), some (.int x1), some (.int x2), some (.int r1)]) zd_170_23 rfl]
      rw [zs_getR (n := 119) (K := zx_pk (zK L) 119) (ρ := zR) (c := 5) (k := 2) (q := 69) (p := 72) zd_170_24 rfl rfl rfl (by decide) rfl]
      rw [zs_iload_n (ls := [some (.ref 69), some (.int x1), some (.int x2), some (.int r1)]) zd_170_27 rfl]
      obtain ⟨r5, hr5, H⟩ := Option.bind_eq_some_iff.mp H
      rw [zp_callVv (st := [.int x2, .ref 72]) (as := [.ref 72, .int x2]) (rest := []) (e := 0) zd_170_28 rfl (by decide +kernel) (by decide) rfl rfl (Nat.le_of_ble_eq_true rfl) (zx_rcb_ok rfl (show 72 < 119 by decide)) (Nat.le_of_ble_eq_true rfl) rfl (by decide) (zt_Numbers_add_c8 hr5)]
      rw [zs_aload_n (ls := [some (.ref 69), some (.int x1), some (.int x2), some (.int r1)]) zd_170_31 rfl]
      rw [zs_getR (n := 119) (K := zx_pk (zK L) 119) (ρ := zR) (c := 5) (k := 3) (q := 69) (p := 74) zd_170_32 rfl rfl rfl (by decide) rfl]
      rw [zs_iload_n (ls := [some (.ref 69), some (.int x1), some (.int x2), some (.int r1)]) zd_170_35 rfl]
      rw [zs_aload_n (ls := [some (.ref 69), some (.int x1), some (.int x2), some (.int r1)]) zd_170_36 rfl]
      rw [zs_getR (n := 119) (K := zx_pk (zK L) 119) (ρ := zR) (c := 5) (k := 1) (q := 69) (p := 70) zd_170_37 rfl rfl rfl (by decide) rfl]
      rw [zp_getI (n := 119) (K := zx_pk (zK L) 119) (σ := r5) (c := 4) (k := 1) (q := 70) (v := (r5 70 1)) zd_170_40 rfl rfl rfl (by decide) rfl]
      by_cases c6 : 0 ≤ r1 ∧ r1 < 8192
      · rw [if_pos c6] at H
        rw [zp_iastore (n := 119) (K := zx_pk (zK L) 119) (q := 74) (m := 8192) (i := r1) (k := r1.toNatClampNeg) (x := (r5 70 1)) (z := (r5 70 1)) zd_170_43 rfl ⟨by decide, by decide⟩ (zJ_in c6 rfl) rfl rfl]
        have H := Option.some.inj H
        subst H
        exact zs_return zd_170_44 (by decide +kernel)
      · rw [if_neg c6] at H
        cases H
  · rw [if_neg c2] at H
    cases H
set_option maxRecDepth 20000 in
theorem zt_Outcomes_gather_c1_57 {a b L N : Nat} {k24 : zS → Int32 → Option (zS)} (hk24 : ∀ {σ : zS} {τ : zT} {v2 : Int32} {r : zS}, k24 σ v2 = some r → zx_go 4 168 24 [some (.ref 69), some (.ref 64), some (.int v2)] [] ((119, a, b), zx_pk (zK L) 119, σ, τ, zR) = some (none, ((119, a, b), zx_pk (zK L) 119, r, τ, zR))) {σ : zS} {τ : zT} {v2 : Int32} {r : zS} (H : zb_Outcomes_gather_c1_57 k24 N σ v2 = some r) : zx_go 4 168 57 [some (.ref 69), some (.ref 64), some (.int v2)] [] ((119, a, b), zx_pk (zK L) 119, σ, τ, zR) = some (none, ((119, a, b), zx_pk (zK L) 119, r, τ, zR)) := by
  unfold zb_Outcomes_gather_c1_57 at H
  rw [zs_iinc (ls := [some (.ref 69), some (.ref 64), some (.int v2)]) (x := v2) (z := (v2 + 1)) (ls' := [some (.ref 69), some (.ref 64), some (.int (v2 + 1))]) zd_168_57 rfl rfl rfl]
  rw [zs_goto (t := 24) zd_168_60 rfl]
  exact hk24 H
set_option maxRecDepth 20000 in
theorem zt_Outcomes_gather_c1_24 {a b L N : Nat} : ∀ {n : Nat} {σ : zS} {τ : zT} {v2 : Int32} {r : zS}, zb_Outcomes_gather_c1_24 N n σ v2 = some r → zx_go 4 168 24 [some (.ref 69), some (.ref 64), some (.int v2)] [] ((119, a, b), zx_pk (zK L) 119, σ, τ, zR) = some (none, ((119, a, b), zx_pk (zK L) 119, r, τ, zR)) := by
  intro n
  induction n with
  | zero =>
    intro _ _ _ _ H
    cases H
  | succ n ih =>
    intro σ τ v2 r H
    rw [zb_Outcomes_gather_c1_24] at H
    rw [zs_iload_n (ls := [some (.ref 69), some (.ref 64), some (.int v2)]) zd_168_24 rfl]
    rw [zs_aload_n (ls := [some (.ref 69), some (.ref 64), some (.int v2)]) zd_168_25 rfl]
    rw [zp_getI (n := 119) (K := zx_pk (zK L) 119) (σ := σ) (c := 8) (k := 6) (q := 64) (v := (σ 64 6)) zd_168_26 rfl rfl rfl (by decide) rfl]
    by_cases c4 : (σ 64 6) ≤ v2
    · rw [if_pos c4] at H
      rw [zp_icmp_ge_t (x := v2) (y := (σ 64 6)) (t := 63) zd_168_29 rfl c4]
      have H := Option.some.inj H
      subst H
      exact zs_return zd_168_63 (by decide +kernel)
    · rw [if_neg c4] at H
      rw [zp_icmp_ge_f (x := v2) (y := (σ 64 6)) (t := 63) zd_168_29 rfl c4]
      rw [zs_aload_n (ls := [some (.ref 69), some (.ref 64), some (.int v2)]) zd_168_32 rfl]
      rw [zs_iload_n (ls := [some (.ref 69), some (.ref 64), some (.int v2)]) zd_168_33 rfl]
      obtain ⟨r5, hr5, H⟩ := Option.bind_eq_some_iff.mp H
      rw [zp_callVi (x := r5) (st := [.int v2, .ref 64]) (as := [.ref 64, .int v2]) (rest := []) (e := 1) zd_168_34 rfl (by decide +kernel) (by decide) rfl rfl (Nat.le_of_ble_eq_true rfl) (zx_rcb_ok rfl (show 64 < 119 by decide)) (Nat.le_of_ble_eq_true rfl) rfl (by decide) (zt_Space_isLast_c1 hr5)]
      by_cases c6 : r5 = 0
      · rw [if_pos c6] at H
        rw [zp_if_eq_t (x := r5) (t := 57) zd_168_37 rfl c6]
        exact zt_Outcomes_gather_c1_57 (hk24 := ih) H
      · rw [if_neg c6] at H
        rw [zp_if_eq_f (x := r5) (t := 57) zd_168_37 rfl c6]
        rw [zs_aload_n (ls := [some (.ref 69), some (.ref 64), some (.int v2)]) zd_168_40 rfl]
        rw [zs_iload_n (ls := [some (.ref 69), some (.ref 64), some (.int v2)]) zd_168_41 rfl]
        obtain ⟨r7, hr7, H⟩ := Option.bind_eq_some_iff.mp H
        rw [zp_callVv (st := [.int v2, .ref 64]) (as := [.ref 64, .int v2]) (rest := []) (e := 3) zd_168_42 rfl (by decide +kernel) (by decide) rfl rfl (Nat.le_of_ble_eq_true rfl) (zx_rcb_ok rfl (show 64 < 119 by decide)) (Nat.le_of_ble_eq_true rfl) rfl (by decide) (zt_Space_load_c1 hr7)]
        rw [zs_aload_n (ls := [some (.ref 69), some (.ref 64), some (.int v2)]) zd_168_45 rfl]
        rw [zs_aload_n (ls := [some (.ref 69), some (.ref 64), some (.int v2)]) zd_168_46 rfl]
        rw [zs_getR (n := 119) (K := zx_pk (zK L) 119) (ρ := zR) (c := 5) (k := 0) (q := 69) (p := 35) zd_168_47 rfl rfl rfl (by decide) rfl]
        obtain ⟨r8, hr8, H⟩ := Option.bind_eq_some_iff.mp H
        rw [zp_callVi (x := r8) (st := [.ref 35, .ref 69]) (as := [.ref 35]) (rest := [.ref 69]) (e := 3) zd_168_50 rfl (by decide +kernel) (by decide) rfl rfl (Nat.le_of_ble_eq_true rfl) (zx_rcb_ok rfl (show 35 < 119 by decide)) (Nat.le_of_ble_eq_true rfl) rfl (by decide) (zt_Machine_outcome hr8)]
        rw [zs_iload_n (ls := [some (.ref 69), some (.ref 64), some (.int v2)]) zd_168_53 rfl]
        obtain ⟨r9, hr9, H⟩ := Option.bind_eq_some_iff.mp H
        rw [zp_callVv (st := [.int v2, .int r8, .ref 69]) (as := [.ref 69, .int r8, .int v2]) (rest := []) (e := 2) zd_168_54 rfl (by decide +kernel) (by decide) rfl rfl (Nat.le_of_ble_eq_true rfl) (zx_rcb_ok rfl (show 69 < 119 by decide)) (Nat.le_of_ble_eq_true rfl) rfl (by decide) (zt_Outcomes_note_c1 hr9)]
        exact zt_Outcomes_gather_c1_57 (hk24 := ih) H
set_option maxRecDepth 20000 in
theorem zt_Outcomes_gather_c1 {a b L N : Nat} {σ : zS} {τ : zT} {r : zS} (H : zf_Outcomes_gather_c1 N σ = some r) : zx_go 4 168 0 [some (.ref 69), some (.ref 64), none] [] ((119, a, b), zx_pk (zK L) 119, σ, τ, zR) = some (none, ((119, a, b), zx_pk (zK L) 119, r, τ, zR)) := by
  unfold zf_Outcomes_gather_c1 at H
  rw [zs_aload_n (ls := [some (.ref 69), some (.ref 64), none]) zd_168_0 rfl]
  rw [zs_getR (n := 119) (K := zx_pk (zK L) 119) (ρ := zR) (c := 5) (k := 1) (q := 69) (p := 70) zd_168_1 rfl rfl rfl (by decide) rfl]
  obtain ⟨r1, hr1, H⟩ := Option.bind_eq_some_iff.mp H
  rw [zp_callVv (st := [.ref 70]) (as := [.ref 70]) (rest := []) (e := 0) zd_168_4 rfl (by decide +kernel) (by decide) rfl rfl (Nat.le_of_ble_eq_true rfl) (zx_rcb_ok rfl (show 70 < 119 by decide)) (Nat.le_of_ble_eq_true rfl) rfl (by decide) (zt_Numbers_clear_c7 hr1)]
  rw [zs_aload_n (ls := [some (.ref 69), some (.ref 64), none]) zd_168_7 rfl]
  rw [zs_getR (n := 119) (K := zx_pk (zK L) 119) (ρ := zR) (c := 5) (k := 2) (q := 69) (p := 72) zd_168_8 rfl rfl rfl (by decide) rfl]
  obtain ⟨r2, hr2, H⟩ := Option.bind_eq_some_iff.mp H
  rw [zp_callVv (st := [.ref 72]) (as := [.ref 72]) (rest := []) (e := 0) zd_168_11 rfl (by decide +kernel) (by decide) rfl rfl (Nat.le_of_ble_eq_true rfl) (zx_rcb_ok rfl (show 72 < 119 by decide)) (Nat.le_of_ble_eq_true rfl) rfl (by decide) (zt_Numbers_clear_c8 hr2)]
  rw [zs_aload_n (ls := [some (.ref 69), some (.ref 64), none]) zd_168_14 rfl]
  rw [zs_getR (n := 119) (K := zx_pk (zK L) 119) (ρ := zR) (c := 5) (k := 3) (q := 69) (p := 74) zd_168_15 rfl rfl rfl (by decide) rfl]
  rw [zs_iconst (z := 0) zd_168_18 (by decide)]
  obtain ⟨r3, hr3, H⟩ := Option.bind_eq_some_iff.mp H
  rw [zp_callSv (st := [.int 0, .ref 74]) (as := [.ref 74, .int 0]) (rest := []) (e := 0) zd_168_19 rfl (by decide +kernel) (by decide) rfl rfl (Nat.le_of_ble_eq_true rfl) rfl (Nat.le_of_ble_eq_true rfl) rfl (by decide) (zt_Arrays_fill_c8 hr3)]
  rw [zs_iconst (z := 0) zd_168_22 (by decide)]
  rw [zs_istore_n (x := 0) (ls' := [some (.ref 69), some (.ref 64), some (.int 0)]) zd_168_23 (Nat.le_of_ble_eq_true rfl) rfl]
  exact zt_Outcomes_gather_c1_24  H
set_option maxRecDepth 20000 in
theorem zt_Outcomes_isSameAs_21 {a b L N : Nat} : ∀ {n : Nat} {σ : zS} {τ : zT} {v2 : Int32} {r : Int32}, zb_Outcomes_isSameAs_21 N n σ v2 = some r → zx_go 2 228 21 [some (.ref 69), some (.ref 58), some (.int v2)] [] ((119, a, b), zx_pk (zK L) 119, σ, τ, zR) = some (some (.int r), ((119, a, b), zx_pk (zK L) 119, σ, τ, zR)) := by
  intro n
  induction n with
  | zero =>
    intro _ _ _ _ H
    cases H
  | succ n ih =>
    intro σ τ v2 r H
    rw [zb_Outcomes_isSameAs_21] at H
    rw [zs_iload_n (ls := [some (.ref 69), some (.ref 58), some (.int v2)]) zd_228_21 rfl]
    rw [zs_aload_n (ls := [some (.ref 69), some (.ref 58), some (.int v2)]) zd_228_22 rfl]
    rw [zs_getR (n := 119) (K := zx_pk (zK L) 119) (ρ := zR) (c := 5) (k := 1) (q := 58) (p := 59) zd_228_23 rfl rfl rfl (by decide) rfl]
    rw [zp_getI (n := 119) (K := zx_pk (zK L) 119) (σ := σ) (c := 4) (k := 1) (q := 59) (v := (σ 59 1)) zd_228_26 rfl rfl rfl (by decide) rfl]
    by_cases c2 : (σ 59 1) ≤ v2
    · rw [if_pos c2] at H
      rw [zp_icmp_ge_t (x := v2) (y := (σ 59 1)) (t := 60) zd_228_29 rfl c2]
      rw [zs_iconst (z := 1) zd_228_60 (by decide)]
      have H := Option.some.inj H
      subst H
      exact zs_ireturn zd_228_61 (by decide +kernel)
    · rw [if_neg c2] at H
      rw [zp_icmp_ge_f (x := v2) (y := (σ 59 1)) (t := 60) zd_228_29 rfl c2]
      rw [zs_aload_n (ls := [some (.ref 69), some (.ref 58), some (.int v2)]) zd_228_32 rfl]
      rw [zs_getR (n := 119) (K := zx_pk (zK L) 119) (ρ := zR) (c := 5) (k := 3) (q := 69) (p := 74) zd_228_33 rfl rfl rfl (by decide) rfl]
      rw [zs_aload_n (ls := [some (.ref 69), some (.ref 58), some (.int v2)]) zd_228_36 rfl]
      rw [zs_aload_n (ls := [some (.ref 69), some (.ref 58), some (.int v2)]) zd_228_37 rfl]
      rw [zs_getR (n := 119) (K := zx_pk (zK L) 119) (ρ := zR) (c := 5) (k := 1) (q := 58) (p := 59) zd_228_38 rfl rfl rfl (by decide) rfl]
      rw [zs_iload_n (ls := [some (.ref 69), some (.ref 58), some (.int v2)]) zd_228_41 rfl]
      obtain ⟨r3, hr3, H⟩ := Option.bind_eq_some_iff.mp H
      rw [zp_callVi (x := r3) (st := [.int v2, .ref 59, .ref 69, .ref 74]) (as := [.ref 59, .int v2]) (rest := [.ref 69, .ref 74]) (e := 0) zd_228_42 rfl (by decide +kernel) (by decide) rfl rfl (Nat.le_of_ble_eq_true rfl) (zx_rcb_ok rfl (show 59 < 119 by decide)) (Nat.le_of_ble_eq_true rfl) rfl (by decide) (zt_Numbers_get hr3)]
      obtain ⟨r4, hr4, H⟩ := Option.bind_eq_some_iff.mp H
      rw [zp_callVi (x := r4) (st := [.int r3, .ref 69, .ref 74]) (as := [.ref 69, .int r3]) (rest := [.ref 74]) (e := 1) zd_228_45 rfl (by decide +kernel) (by decide) rfl rfl (Nat.le_of_ble_eq_true rfl) (zx_rcb_ok rfl (show 69 < 119 by decide)) (Nat.le_of_ble_eq_true rfl) rfl (by decide) (zt_Outcomes_slotOf_c1 hr4)]
      by_cases c5 : 0 ≤ r4 ∧ r4 < 8192
      · rw [if_pos c5] at H
        rw [zp_iaload (n := 119) (K := zx_pk (zK L) 119) (σ := σ) (q := 74) (m := 8192) (i := r4) (k := r4.toNatClampNeg) (v := (σ 74 r4.toNatClampNeg)) zd_228_48 rfl (by decide) (zJ_in c5 rfl) rfl rfl]
        by_cases c6 : ¬ (σ 74 r4.toNatClampNeg) = 0
        · rw [if_pos c6] at H
          rw [zp_if_ne_t (x := (σ 74 r4.toNatClampNeg)) (t := 54) zd_228_49 rfl c6]
          rw [zs_iinc (ls := [some (.ref 69), some (.ref 58), some (.int v2)]) (x := v2) (z := (v2 + 1)) (ls' := [some (.ref 69), some (.ref 58), some (.int (v2 + 1))]) zd_228_54 rfl rfl rfl]
          rw [zs_goto (t := 21) zd_228_57 rfl]
          exact ih H
        · rw [if_neg c6] at H
          rw [zp_if_ne_f (x := (σ 74 r4.toNatClampNeg)) (t := 54) zd_228_49 rfl c6]
          rw [zs_iconst (z := 0) zd_228_52 (by decide)]
          have H := Option.some.inj H
          subst H
          exact zs_ireturn zd_228_53 (by decide +kernel)
      · rw [if_neg c5] at H
        cases H
set_option maxRecDepth 20000 in
theorem zt_Outcomes_isSameAs {a b L N : Nat} {σ : zS} {τ : zT} {r : Int32} (H : zf_Outcomes_isSameAs N σ = some r) : zx_go 2 228 0 [some (.ref 69), some (.ref 58), none] [] ((119, a, b), zx_pk (zK L) 119, σ, τ, zR) = some (some (.int r), ((119, a, b), zx_pk (zK L) 119, σ, τ, zR)) := by
  unfold zf_Outcomes_isSameAs at H
  rw [zs_aload_n (ls := [some (.ref 69), some (.ref 58), none]) zd_228_0 rfl]
  rw [zs_getR (n := 119) (K := zx_pk (zK L) 119) (ρ := zR) (c := 5) (k := 1) (q := 69) (p := 70) zd_228_1 rfl rfl rfl (by decide) rfl]
  rw [zp_getI (n := 119) (K := zx_pk (zK L) 119) (σ := σ) (c := 4) (k := 1) (q := 70) (v := (σ 70 1)) zd_228_4 rfl rfl rfl (by decide) rfl]
  rw [zs_aload_n (ls := [some (.ref 69), some (.ref 58), none]) zd_228_7 rfl]
  rw [zs_getR (n := 119) (K := zx_pk (zK L) 119) (ρ := zR) (c := 5) (k := 1) (q := 58) (p := 59) zd_228_8 rfl rfl rfl (by decide) rfl]
  rw [zp_getI (n := 119) (K := zx_pk (zK L) 119) (σ := σ) (c := 4) (k := 1) (q := 59) (v := (σ 59 1)) zd_228_11 rfl rfl rfl (by decide) rfl]
  by_cases c1 : (σ 70 1) = (σ 59 1)
  · rw [if_pos c1] at H
    rw [zp_icmp_eq_t (x := (σ 70 1)) (y := (σ 59 1)) (t := 19) zd_228_14 rfl c1]
    rw [zs_iconst (z := 0) zd_228_19 (by decide)]
    rw [zs_istore_n (x := 0) (ls' := [some (.ref 69), some (.ref 58), some (.int 0)]) zd_228_20 (Nat.le_of_ble_eq_true rfl) rfl]
    exact zt_Outcomes_isSameAs_21  H
  · rw [if_neg c1] at H
    rw [zp_icmp_eq_f (x := (σ 70 1)) (y := (σ 59 1)) (t := 19) zd_228_14 rfl c1]
    rw [zs_iconst (z := 0) zd_228_17 (by decide)]
    have H := Option.some.inj H
    subst H
    exact zs_ireturn zd_228_18 (by decide +kernel)
set_option maxRecDepth 20000 in
theorem zt_X_whole_102 {a b L N : Nat} {σ : zS} {τ : zT} {v1 : Int32} {r : Int32 × zS} (H : zb_X_whole_102 N σ v1 = some r) : zx_go 6 227 102 [some (.ref 2), some (.int v1)] [] ((119, a, b), zx_pk (zK L) 119, σ, τ, zR) = some (some (.int r.1), ((119, a, b), zx_pk (zK L) 119, r.2, τ, zR)) := by
  unfold zb_X_whole_102 at H
  rw [zs_aload_n (ls := [some (.ref 2), some (.int v1)]) zd_227_102 rfl]
  rw [zs_getR (n := 119) (K := zx_pk (zK L) 119) (ρ := zR) (c := 11) (k := 8) (q := 2) (p := 75) zd_227_103 rfl rfl rfl (by decide) rfl]
  rw [zs_iload_n (ls := [some (.ref 2), some (.int v1)]) zd_227_106 rfl]
  by_cases c7 : 0 ≤ v1 ∧ v1 < 6
  · rw [if_pos c7] at H
    rw [zp_iaload (n := 119) (K := zx_pk (zK L) 119) (σ := σ) (q := 75) (m := 6) (i := v1) (k := v1.toNatClampNeg) (v := (σ 75 v1.toNatClampNeg)) zd_227_107 rfl (by decide) (zJ_in c7 rfl) rfl rfl]
    have H := Option.some.inj H
    subst H
    exact zs_ireturn zd_227_108 rfl
  · rw [if_neg c7] at H
    cases H
set_option maxRecDepth 20000 in
theorem zt_X_whole_101 {a b L N : Nat} {σ : zS} {τ : zT} {v1 : Int32} {s0 : Int32} {s1 : Int32} {r : Int32 × zS} (H : zb_X_whole_101 N σ v1 s0 s1 = some r) : zx_go 6 227 101 [some (.ref 2), some (.int v1)] [.int s0, .int s1, .ref 75] ((119, a, b), zx_pk (zK L) 119, σ, τ, zR) = some (some (.int r.1), ((119, a, b), zx_pk (zK L) 119, r.2, τ, zR)) := by
  unfold zb_X_whole_101 at H
  by_cases c14 : 0 ≤ s1 ∧ s1 < 6
  · rw [if_pos c14] at H
    rw [zp_iastore (n := 119) (K := zx_pk (zK L) 119) (q := 75) (m := 6) (i := s1) (k := s1.toNatClampNeg) (x := s0) (z := s0) zd_227_101 rfl ⟨by decide, by decide⟩ (zJ_in c14 rfl) rfl rfl]
    exact zt_X_whole_102  H
  · rw [if_neg c14] at H
    cases H
set_option maxRecDepth 20000 in
theorem zt_X_whole {a b L N : Nat} {σ : zS} {τ : zT} {x1 : Int32} {r : Int32 × zS} (H : zf_X_whole N σ x1 = some r) : zx_go 6 227 0 [some (.ref 2), some (.int x1)] [] ((119, a, b), zx_pk (zK L) 119, σ, τ, zR) = some (some (.int r.1), ((119, a, b), zx_pk (zK L) 119, r.2, τ, zR)) := by
  unfold zf_X_whole at H
  rw [zs_aload_n (ls := [some (.ref 2), some (.int x1)]) zd_227_0 rfl]
  rw [zp_getZ (n := 119) (K := zx_pk (zK L) 119) (σ := σ) (c := 11) (k := 15) (q := 2) (v := (σ 2 15)) zd_227_1 rfl rfl rfl (by decide) rfl]
  by_cases c1 : ¬ (σ 2 15) = 0
  · rw [if_pos c1] at H
    rw [zp_if_ne_t (x := (σ 2 15)) (t := 10) zd_227_4 rfl c1]
    rw [zs_iload_n (ls := [some (.ref 2), some (.int x1)]) zd_227_10 rfl]
    by_cases c2 : x1 < 0
    · rw [if_pos c2] at H
      rw [zp_if_lt_t (x := x1) (t := 31) zd_227_11 rfl c2]
      rw [zs_bipush (z := (-102)) zd_227_31 (by decide)]
      have H := Option.some.inj H
      subst H
      exact zs_ireturn zd_227_33 (by decide +kernel)
    · rw [if_neg c2] at H
      rw [zp_if_lt_f (x := x1) (t := 31) zd_227_11 rfl c2]
      rw [zs_iload_n (ls := [some (.ref 2), some (.int x1)]) zd_227_14 rfl]
      rw [zs_aload_n (ls := [some (.ref 2), some (.int x1)]) zd_227_15 rfl]
      rw [zs_getR (n := 119) (K := zx_pk (zK L) 119) (ρ := zR) (c := 11) (k := 1) (q := 2) (p := 4) zd_227_16 rfl rfl rfl (by decide) rfl]
      rw [zp_getI (n := 119) (K := zx_pk (zK L) 119) (σ := σ) (c := 6) (k := 3) (q := 4) (v := (σ 4 3)) zd_227_19 rfl rfl rfl (by decide) rfl]
      by_cases c3 : (σ 4 3) ≤ x1
      · rw [if_pos c3] at H
        rw [zp_icmp_ge_t (x := x1) (y := (σ 4 3)) (t := 31) zd_227_22 rfl c3]
        rw [zs_bipush (z := (-102)) zd_227_31 (by decide)]
        have H := Option.some.inj H
        subst H
        exact zs_ireturn zd_227_33 (by decide +kernel)
      · rw [if_neg c3] at H
        rw [zp_icmp_ge_f (x := x1) (y := (σ 4 3)) (t := 31) zd_227_22 rfl c3]
        rw [zs_iload_n (ls := [some (.ref 2), some (.int x1)]) zd_227_25 rfl]
        rw [zs_bipush (z := 6) zd_227_26 (by decide)]
        by_cases c4 : x1 < 6
        · rw [if_pos c4] at H
          rw [zp_icmp_lt_t (x := x1) (y := 6) (t := 34) zd_227_28 rfl c4]
          rw [zs_aload_n (ls := [some (.ref 2), some (.int x1)]) zd_227_34 rfl]
          rw [zs_getR (n := 119) (K := zx_pk (zK L) 119) (ρ := zR) (c := 11) (k := 8) (q := 2) (p := 75) zd_227_35 rfl rfl rfl (by decide) rfl]
          rw [zs_iload_n (ls := [some (.ref 2), some (.int x1)]) zd_227_38 rfl]
          by_cases c5 : 0 ≤ x1 ∧ x1 < 6
          · rw [if_pos c5] at H
            rw [zp_iaload (n := 119) (K := zx_pk (zK L) 119) (σ := σ) (q := 75) (m := 6) (i := x1) (k := x1.toNatClampNeg) (v := (σ 75 x1.toNatClampNeg)) zd_227_39 rfl (by decide) (zJ_in c5 rfl) rfl rfl]
            rw [zs_iconst (z := (-1)) zd_227_40 (by decide)]
            by_cases c6 : ¬ (σ 75 x1.toNatClampNeg) = (-1)
            · rw [if_pos c6] at H
              rw [zp_icmp_ne_t (x := (σ 75 x1.toNatClampNeg)) (y := (-1)) (t := 102) zd_227_41 rfl c6]
              exact zt_X_whole_102  H
            · rw [if_neg c6] at H
              rw [zp_icmp_ne_f (x := (σ 75 x1.toNatClampNeg)) (y := (-1)) (t := 102) zd_227_41 rfl c6]
              rw [zs_aload_n (ls := [some (.ref 2), some (.int x1)]) zd_227_44 rfl]
              rw [zs_getR (n := 119) (K := zx_pk (zK L) 119) (ρ := zR) (c := 11) (k := 8) (q := 2) (p := 75) zd_227_45 rfl rfl rfl (by decide) rfl]
              rw [zs_iload_n (ls := [some (.ref 2), some (.int x1)]) zd_227_48 rfl]
              rw [zs_bipush (z := (-103)) zd_227_49 (by decide)]
              by_cases c8 : 0 ≤ x1 ∧ x1 < 6
              · rw [if_pos c8] at H
                rw [zp_iastore (n := 119) (K := zx_pk (zK L) 119) (q := 75) (m := 6) (i := x1) (k := x1.toNatClampNeg) (x := (-103)) (z := (-103)) zd_227_51 rfl ⟨by decide, by decide⟩ (zJ_in c8 rfl) rfl rfl]
                rw [zs_aload_n (ls := [some (.ref 2), some (.int x1)]) zd_227_52 rfl]
                rw [zs_getR (n := 119) (K := zx_pk (zK L) 119) (ρ := zR) (c := 11) (k := 6) (q := 2) (p := 64) zd_227_53 rfl rfl rfl (by decide) rfl]
                rw [zs_iload_n (ls := [some (.ref 2), some (.int x1)]) zd_227_56 rfl]
                obtain ⟨r9, hr9, H⟩ := Option.bind_eq_some_iff.mp H
                rw [zp_callVi (x := r9.1) (st := [.int x1, .ref 64]) (as := [.ref 64, .int x1]) (rest := []) (e := 5) zd_227_57 rfl (by decide +kernel) (by decide) rfl rfl (Nat.le_of_ble_eq_true rfl) (zx_rcb_ok rfl (show 64 < 119 by decide)) (Nat.le_of_ble_eq_true rfl) rfl (by decide) (zt_Space_explore_c1 hr9)]
                by_cases c10 : r9.1 = 0
                · rw [if_pos c10] at H
                  rw [zp_if_eq_t (x := r9.1) (t := 102) zd_227_60 rfl c10]
                  exact zt_X_whole_102  H
                · rw [if_neg c10] at H
                  rw [zp_if_eq_f (x := r9.1) (t := 102) zd_227_60 rfl c10]
                  rw [zs_aload_n (ls := [some (.ref 2), some (.int x1)]) zd_227_63 rfl]
                  rw [zs_getR (n := 119) (K := zx_pk (zK L) 119) (ρ := zR) (c := 11) (k := 7) (q := 2) (p := 69) zd_227_64 rfl rfl rfl (by decide) rfl]
                  rw [zs_aload_n (ls := [some (.ref 2), some (.int x1)]) zd_227_67 rfl]
                  rw [zs_getR (n := 119) (K := zx_pk (zK L) 119) (ρ := zR) (c := 11) (k := 6) (q := 2) (p := 64) zd_227_68 rfl rfl rfl (by decide) rfl]
                  obtain ⟨r11, hr11, H⟩ := Option.bind_eq_some_iff.mp H
                  rw [zp_callVv (st := [.ref 64, .ref 69]) (as := [.ref 69, .ref 64]) (rest := []) (e := 4) zd_227_71 rfl (by decide +kernel) (by decide) rfl rfl (Nat.le_of_ble_eq_true rfl) (zx_rcb_ok rfl (show 69 < 119 by decide)) (Nat.le_of_ble_eq_true rfl) rfl (by decide) (zt_Outcomes_gather_c1 hr11)]
                  rw [zs_aload_n (ls := [some (.ref 2), some (.int x1)]) zd_227_74 rfl]
                  rw [zs_getR (n := 119) (K := zx_pk (zK L) 119) (ρ := zR) (c := 11) (k := 8) (q := 2) (p := 75) zd_227_75 rfl rfl rfl (by decide) rfl]
                  rw [zs_iload_n (ls := [some (.ref 2), some (.int x1)]) zd_227_78 rfl]
                  rw [zs_aload_n (ls := [some (.ref 2), some (.int x1)]) zd_227_79 rfl]
                  rw [zs_getR (n := 119) (K := zx_pk (zK L) 119) (ρ := zR) (c := 11) (k := 7) (q := 2) (p := 69) zd_227_80 rfl rfl rfl (by decide) rfl]
                  rw [zs_aload_n (ls := [some (.ref 2), some (.int x1)]) zd_227_83 rfl]
                  rw [zs_getR (n := 119) (K := zx_pk (zK L) 119) (ρ := zR) (c := 11) (k := 5) (q := 2) (p := 46) zd_227_84 rfl rfl rfl (by decide) rfl]
                  rw [zs_getR (n := 119) (K := zx_pk (zK L) 119) (ρ := zR) (c := 0) (k := 7) (q := 46) (p := 58) zd_227_87 rfl rfl rfl (by decide) rfl]
                  obtain ⟨r12, hr12, H⟩ := Option.bind_eq_some_iff.mp H
                  rw [zp_callVi (x := r12) (st := [.ref 58, .ref 69, .int x1, .ref 75]) (as := [.ref 69, .ref 58]) (rest := [.int x1, .ref 75]) (e := 2) zd_227_90 rfl (by decide +kernel) (by decide) rfl rfl (Nat.le_of_ble_eq_true rfl) (zx_rcb_ok rfl (show 69 < 119 by decide)) (Nat.le_of_ble_eq_true rfl) rfl (by decide) (zt_Outcomes_isSameAs hr12)]
                  by_cases c13 : r12 = 0
                  · rw [if_pos c13] at H
                    rw [zp_if_eq_t (x := r12) (t := 100) zd_227_93 rfl c13]
                    rw [zs_iconst (z := 0) zd_227_100 (by decide)]
                    exact zt_X_whole_101  H
                  · rw [if_neg c13] at H
                    rw [zp_if_eq_f (x := r12) (t := 100) zd_227_93 rfl c13]
                    rw [zs_iconst (z := 1) zd_227_96 (by decide)]
                    rw [zs_goto (t := 101) zd_227_97 rfl]
                    exact zt_X_whole_101  H
              · rw [if_neg c8] at H
                cases H
          · rw [if_neg c5] at H
            cases H
        · rw [if_neg c4] at H
          rw [zp_icmp_lt_f (x := x1) (y := 6) (t := 34) zd_227_28 rfl c4]
          rw [zs_bipush (z := (-102)) zd_227_31 (by decide)]
          have H := Option.some.inj H
          subst H
          exact zs_ireturn zd_227_33 (by decide +kernel)
  · rw [if_neg c1] at H
    rw [zp_if_ne_f (x := (σ 2 15)) (t := 10) zd_227_4 rfl c1]
    rw [zs_bipush (z := (-101)) zd_227_7 (by decide)]
    have H := Option.some.inj H
    subst H
    exact zs_ireturn zd_227_9 (by decide +kernel)
set_option maxRecDepth 20000 in
theorem zt_M_whole_472 {a b L N : Nat} {σ : zS} {τ : zT} {v5 : Int32} {o0 : Option Value} {o1 : Option Value} {o2 : Option Value} {o3 : Option Value} {o4 : Option Value} {o6 : Option Value} {o7 : Option Value} {o8 : Option Value} {o9 : Option Value} {r : Int32 × zS} (H : zb_M_whole_472 N σ v5 = some r) : zx_go 4 229 472 [o0, o1, o2, o3, o4, some (.int v5), o6, o7, o8, o9] [] ((119, a, b), zx_pk (zK L) 119, σ, τ, zR) = some (some (.int r.1), ((119, a, b), zx_pk (zK L) 119, r.2, τ, zR)) := by
  unfold zb_M_whole_472 at H
  rw [zs_iload (ls := [o0, o1, o2, o3, o4, some (.int v5), o6, o7, o8, o9]) zd_229_472 rfl]
  by_cases c11 : v5 = 0
  · rw [if_pos c11] at H
    rw [zp_if_eq_t (x := v5) (t := 481) zd_229_474 rfl c11]
    rw [zs_iconst (z := 0) zd_229_481 (by decide)]
    have H := Option.some.inj H
    subst H
    exact zs_ireturn zd_229_482 (by decide +kernel)
  · rw [if_neg c11] at H
    rw [zp_if_eq_f (x := v5) (t := 481) zd_229_474 rfl c11]
    rw [zs_iconst (z := 1) zd_229_477 (by decide)]
    rw [zs_goto (t := 482) zd_229_478 rfl]
    have H := Option.some.inj H
    subst H
    exact zs_ireturn zd_229_482 (by decide +kernel)
set_option maxRecDepth 20000 in
theorem zt_M_whole_454 {a b L N : Nat} {k414 : zS → Int32 → Int32 → Int32 → Int32 → Option (Int32 × zS)} (hk414 : ∀ {σ : zS} {τ : zT} {v4 : Int32} {v6 : Int32} {v7 : Int32} {v8 : Int32} {o1 : Option Value} {o2 : Option Value} {o3 : Option Value} {o5 : Option Value} {o9 : Option Value} {r : Int32 × zS}, k414 σ v4 v6 v7 v8 = some r → zx_go 4 229 414 [some (.ref 82), o1, o2, o3, some (.int v4), o5, some (.int v6), some (.int v7), some (.int v8), o9] [] ((119, a, b), zx_pk (zK L) 119, σ, τ, zR) = some (some (.int r.1), ((119, a, b), zx_pk (zK L) 119, r.2, τ, zR))) {σ : zS} {τ : zT} {v4 : Int32} {v6 : Int32} {v8 : Int32} {s0 : Int32} {o1 : Option Value} {o2 : Option Value} {o3 : Option Value} {o5 : Option Value} {o7 : Option Value} {o9 : Option Value} {r : Int32 × zS} (H : zb_M_whole_454 k414 N σ v4 v6 v8 s0 = some r) : zx_go 4 229 454 [some (.ref 82), o1, o2, o3, some (.int v4), o5, some (.int v6), o7, some (.int v8), o9] [.int s0] ((119, a, b), zx_pk (zK L) 119, σ, τ, zR) = some (some (.int r.1), ((119, a, b), zx_pk (zK L) 119, r.2, τ, zR)) := by
  unfold zb_M_whole_454 at H
  rw [zs_istore (x := s0) (ls' := [some (.ref 82), o1, o2, o3, some (.int v4), o5, some (.int v6), some (.int s0), some (.int v8), o9]) zd_229_454 (Nat.le_of_ble_eq_true rfl) rfl]
  rw [zs_iinc (ls := [some (.ref 82), o1, o2, o3, some (.int v4), o5, some (.int v6), some (.int s0), some (.int v8), o9]) (x := v8) (z := (v8 + 1)) (ls' := [some (.ref 82), o1, o2, o3, some (.int v4), o5, some (.int v6), some (.int s0), some (.int (v8 + 1)), o9]) zd_229_456 rfl rfl rfl]
  rw [zs_goto (t := 414) zd_229_459 rfl]
  exact hk414 H
set_option maxRecDepth 20000 in
theorem zt_M_whole_449 {a b L N : Nat} {k414 : zS → Int32 → Int32 → Int32 → Int32 → Option (Int32 × zS)} (hk414 : ∀ {σ : zS} {τ : zT} {v4 : Int32} {v6 : Int32} {v7 : Int32} {v8 : Int32} {o1 : Option Value} {o2 : Option Value} {o3 : Option Value} {o5 : Option Value} {o9 : Option Value} {r : Int32 × zS}, k414 σ v4 v6 v7 v8 = some r → zx_go 4 229 414 [some (.ref 82), o1, o2, o3, some (.int v4), o5, some (.int v6), some (.int v7), some (.int v8), o9] [] ((119, a, b), zx_pk (zK L) 119, σ, τ, zR) = some (some (.int r.1), ((119, a, b), zx_pk (zK L) 119, r.2, τ, zR))) {σ : zS} {τ : zT} {v4 : Int32} {v6 : Int32} {v8 : Int32} {o1 : Option Value} {o2 : Option Value} {o3 : Option Value} {o5 : Option Value} {o7 : Option Value} {o9 : Option Value} {r : Int32 × zS} (H : zb_M_whole_449 k414 N σ v4 v6 v8 = some r) : zx_go 4 229 449 [some (.ref 82), o1, o2, o3, some (.int v4), o5, some (.int v6), o7, some (.int v8), o9] [] ((119, a, b), zx_pk (zK L) 119, σ, τ, zR) = some (some (.int r.1), ((119, a, b), zx_pk (zK L) 119, r.2, τ, zR)) := by
  unfold zb_M_whole_449 at H
  rw [zs_iconst (z := 1) zd_229_449 (by decide)]
  rw [zs_goto (t := 454) zd_229_450 rfl]
  exact zt_M_whole_454 (hk414 := hk414) H
set_option maxRecDepth 20000 in
theorem zt_M_whole_414 {a b L N : Nat} {k396 : zS → Int32 → Int32 → Int32 → Option (Int32 × zS)} (hk396 : ∀ {σ : zS} {τ : zT} {v4 : Int32} {v5 : Int32} {v6 : Int32} {o1 : Option Value} {o2 : Option Value} {o3 : Option Value} {o7 : Option Value} {o8 : Option Value} {o9 : Option Value} {r : Int32 × zS}, k396 σ v4 v5 v6 = some r → zx_go 4 229 396 [some (.ref 82), o1, o2, o3, some (.int v4), some (.int v5), some (.int v6), o7, o8, o9] [] ((119, a, b), zx_pk (zK L) 119, σ, τ, zR) = some (some (.int r.1), ((119, a, b), zx_pk (zK L) 119, r.2, τ, zR))) : ∀ {n : Nat} {σ : zS} {τ : zT} {v4 : Int32} {v6 : Int32} {v7 : Int32} {v8 : Int32} {o1 : Option Value} {o2 : Option Value} {o3 : Option Value} {o5 : Option Value} {o9 : Option Value} {r : Int32 × zS}, zb_M_whole_414 k396 N n σ v4 v6 v7 v8 = some r → zx_go 4 229 414 [some (.ref 82), o1, o2, o3, some (.int v4), o5, some (.int v6), some (.int v7), some (.int v8), o9] [] ((119, a, b), zx_pk (zK L) 119, σ, τ, zR) = some (some (.int r.1), ((119, a, b), zx_pk (zK L) 119, r.2, τ, zR)) := by
  intro n
  induction n with
  | zero =>
    intro _ _ _ _ _ _ _ _ _ _ _ _ H
    cases H
  | succ n ih =>
    intro σ τ v4 v6 v7 v8 o1 o2 o3 o5 o9 r H
    rw [zb_M_whole_414] at H
    rw [zs_iload (ls := [some (.ref 82), o1, o2, o3, some (.int v4), o5, some (.int v6), some (.int v7), some (.int v8), o9]) zd_229_414 rfl]
    rw [zs_aload_n (ls := [some (.ref 82), o1, o2, o3, some (.int v4), o5, some (.int v6), some (.int v7), some (.int v8), o9]) zd_229_416 rfl]
    rw [zp_getI (n := 119) (K := zx_pk (zK L) 119) (σ := σ) (c := 12) (k := 60) (q := 82) (v := (σ 82 60)) zd_229_417 rfl rfl rfl (by decide) rfl]
    by_cases c13 : (σ 82 60) ≤ v8
    · rw [if_pos c13] at H
      rw [zp_icmp_ge_t (x := v8) (y := (σ 82 60)) (t := 462) zd_229_420 rfl c13]
      rw [zs_iload (ls := [some (.ref 82), o1, o2, o3, some (.int v4), o5, some (.int v6), some (.int v7), some (.int v8), o9]) zd_229_462 rfl]
      rw [zs_istore (x := v7) (ls' := [some (.ref 82), o1, o2, o3, some (.int v4), some (.int v7), some (.int v6), some (.int v7), some (.int v8), o9]) zd_229_464 (Nat.le_of_ble_eq_true rfl) rfl]
      rw [zs_iinc (ls := [some (.ref 82), o1, o2, o3, some (.int v4), some (.int v7), some (.int v6), some (.int v7), some (.int v8), o9]) (x := v6) (z := (v6 + 1)) (ls' := [some (.ref 82), o1, o2, o3, some (.int v4), some (.int v7), some (.int (v6 + 1)), some (.int v7), some (.int v8), o9]) zd_229_466 rfl rfl rfl]
      rw [zs_goto (t := 396) zd_229_469 rfl]
      exact hk396 H
    · rw [if_neg c13] at H
      rw [zp_icmp_ge_f (x := v8) (y := (σ 82 60)) (t := 462) zd_229_420 rfl c13]
      rw [zs_iload (ls := [some (.ref 82), o1, o2, o3, some (.int v4), o5, some (.int v6), some (.int v7), some (.int v8), o9]) zd_229_423 rfl]
      by_cases c14 : ¬ v7 = 0
      · rw [if_pos c14] at H
        rw [zp_if_ne_t (x := v7) (t := 449) zd_229_425 rfl c14]
        exact zt_M_whole_449 (hk414 := ih) H
      · rw [if_neg c14] at H
        rw [zp_if_ne_f (x := v7) (t := 449) zd_229_425 rfl c14]
        rw [zs_aload_n (ls := [some (.ref 82), o1, o2, o3, some (.int v4), o5, some (.int v6), some (.int v7), some (.int v8), o9]) zd_229_428 rfl]
        rw [zs_aload_n (ls := [some (.ref 82), o1, o2, o3, some (.int v4), o5, some (.int v6), some (.int v7), some (.int v8), o9]) zd_229_429 rfl]
        rw [zs_getR (n := 119) (K := zx_pk (zK L) 119) (ρ := zR) (c := 12) (k := 63) (q := 82) (p := 117) zd_229_430 rfl rfl rfl (by decide) rfl]
        rw [zs_iload (ls := [some (.ref 82), o1, o2, o3, some (.int v4), o5, some (.int v6), some (.int v7), some (.int v8), o9]) zd_229_433 rfl]
        by_cases c15 : 0 ≤ v6 ∧ v6 < 4000
        · rw [if_pos c15] at H
          rw [zp_iaload (n := 119) (K := zx_pk (zK L) 119) (σ := σ) (q := 117) (m := 4000) (i := v6) (k := v6.toNatClampNeg) (v := (σ 117 v6.toNatClampNeg)) zd_229_435 rfl (by decide) (zJ_in c15 rfl) rfl rfl]
          rw [zs_aload_n (ls := [some (.ref 82), o1, o2, o3, some (.int v4), o5, some (.int v6), some (.int v7), some (.int v8), o9]) zd_229_436 rfl]
          rw [zs_getR (n := 119) (K := zx_pk (zK L) 119) (ρ := zR) (c := 12) (k := 59) (q := 82) (p := 115) zd_229_437 rfl rfl rfl (by decide) rfl]
          rw [zs_iload (ls := [some (.ref 82), o1, o2, o3, some (.int v4), o5, some (.int v6), some (.int v7), some (.int v8), o9]) zd_229_440 rfl]
          by_cases c16 : 0 ≤ v8 ∧ v8 < 4000
          · rw [if_pos c16] at H
            rw [zp_iaload (n := 119) (K := zx_pk (zK L) 119) (σ := σ) (q := 115) (m := 4000) (i := v8) (k := v8.toNatClampNeg) (v := (σ 115 v8.toNatClampNeg)) zd_229_442 rfl (by decide) (zJ_in c16 rfl) rfl rfl]
            obtain ⟨r17, hr17, H⟩ := Option.bind_eq_some_iff.mp H
            rw [zp_callVi (x := r17) (st := [.int (σ 115 v8.toNatClampNeg), .int (σ 117 v6.toNatClampNeg), .ref 82]) (as := [.ref 82, .int (σ 117 v6.toNatClampNeg), .int (σ 115 v8.toNatClampNeg)]) (rest := []) (e := 1) zd_229_443 rfl (by decide +kernel) (by decide) rfl rfl (Nat.le_of_ble_eq_true rfl) (zx_rcb_ok rfl (show 82 < 119 by decide)) (Nat.le_of_ble_eq_true rfl) rfl (by decide) (zt_M_isOutcome hr17)]
            by_cases c18 : r17 = 0
            · rw [if_pos c18] at H
              rw [zp_if_eq_t (x := r17) (t := 453) zd_229_446 rfl c18]
              rw [zs_iconst (z := 0) zd_229_453 (by decide)]
              exact zt_M_whole_454 (hk414 := ih) H
            · rw [if_neg c18] at H
              rw [zp_if_eq_f (x := r17) (t := 453) zd_229_446 rfl c18]
              exact zt_M_whole_449 (hk414 := ih) H
          · rw [if_neg c16] at H
            cases H
        · rw [if_neg c15] at H
          cases H
set_option maxRecDepth 20000 in
theorem zt_M_whole_396 {a b L N : Nat} : ∀ {n : Nat} {σ : zS} {τ : zT} {v4 : Int32} {v5 : Int32} {v6 : Int32} {o1 : Option Value} {o2 : Option Value} {o3 : Option Value} {o7 : Option Value} {o8 : Option Value} {o9 : Option Value} {r : Int32 × zS}, zb_M_whole_396 N n σ v4 v5 v6 = some r → zx_go 4 229 396 [some (.ref 82), o1, o2, o3, some (.int v4), some (.int v5), some (.int v6), o7, o8, o9] [] ((119, a, b), zx_pk (zK L) 119, σ, τ, zR) = some (some (.int r.1), ((119, a, b), zx_pk (zK L) 119, r.2, τ, zR)) := by
  intro n
  induction n with
  | zero =>
    intro _ _ _ _ _ _ _ _ _ _ _ _ H
    cases H
  | succ n ih =>
    intro σ τ v4 v5 v6 o1 o2 o3 o7 o8 o9 r H
    rw [zb_M_whole_396] at H
    rw [zs_iload (ls := [some (.ref 82), o1, o2, o3, some (.int v4), some (.int v5), some (.int v6), o7, o8, o9]) zd_229_396 rfl]
    rw [zs_iload (ls := [some (.ref 82), o1, o2, o3, some (.int v4), some (.int v5), some (.int v6), o7, o8, o9]) zd_229_398 rfl]
    by_cases c10 : v4 ≤ v6
    · rw [if_pos c10] at H
      rw [zp_icmp_ge_t (x := v6) (y := v4) (t := 472) zd_229_400 rfl c10]
      exact zt_M_whole_472  H
    · rw [if_neg c10] at H
      rw [zp_icmp_ge_f (x := v6) (y := v4) (t := 472) zd_229_400 rfl c10]
      rw [zs_iload (ls := [some (.ref 82), o1, o2, o3, some (.int v4), some (.int v5), some (.int v6), o7, o8, o9]) zd_229_403 rfl]
      by_cases c12 : v5 = 0
      · rw [if_pos c12] at H
        rw [zp_if_eq_t (x := v5) (t := 472) zd_229_405 rfl c12]
        exact zt_M_whole_472  H
      · rw [if_neg c12] at H
        rw [zp_if_eq_f (x := v5) (t := 472) zd_229_405 rfl c12]
        rw [zs_iconst (z := 0) zd_229_408 (by decide)]
        rw [zs_istore (x := 0) (ls' := [some (.ref 82), o1, o2, o3, some (.int v4), some (.int v5), some (.int v6), some (.int 0), o8, o9]) zd_229_409 (Nat.le_of_ble_eq_true rfl) rfl]
        rw [zs_iconst (z := 0) zd_229_411 (by decide)]
        rw [zs_istore (x := 0) (ls' := [some (.ref 82), o1, o2, o3, some (.int v4), some (.int v5), some (.int v6), some (.int 0), some (.int 0), o9]) zd_229_412 (Nat.le_of_ble_eq_true rfl) rfl]
        exact zt_M_whole_414 (hk396 := ih) H
set_option maxRecDepth 20000 in
theorem zt_M_whole_391 {a b L N : Nat} {σ : zS} {τ : zT} {v4 : Int32} {s0 : Int32} {o1 : Option Value} {o2 : Option Value} {o3 : Option Value} {o5 : Option Value} {o6 : Option Value} {o7 : Option Value} {o8 : Option Value} {o9 : Option Value} {r : Int32 × zS} (H : zb_M_whole_391 N σ v4 s0 = some r) : zx_go 4 229 391 [some (.ref 82), o1, o2, o3, some (.int v4), o5, o6, o7, o8, o9] [.int s0] ((119, a, b), zx_pk (zK L) 119, σ, τ, zR) = some (some (.int r.1), ((119, a, b), zx_pk (zK L) 119, r.2, τ, zR)) := by
  unfold zb_M_whole_391 at H
  rw [zs_istore (x := s0) (ls' := [some (.ref 82), o1, o2, o3, some (.int v4), some (.int s0), o6, o7, o8, o9]) zd_229_391 (Nat.le_of_ble_eq_true rfl) rfl]
  rw [zs_iconst (z := 0) zd_229_393 (by decide)]
  rw [zs_istore (x := 0) (ls' := [some (.ref 82), o1, o2, o3, some (.int v4), some (.int s0), some (.int 0), o7, o8, o9]) zd_229_394 (Nat.le_of_ble_eq_true rfl) rfl]
  exact zt_M_whole_396  H
set_option maxRecDepth 20000 in
theorem zt_M_whole_371 {a b L N : Nat} {k63 : zS → Int32 → Int32 → Int32 → Int32 → Option (Int32 × zS)} (hk63 : ∀ {σ : zS} {τ : zT} {v1 : Int32} {v2 : Int32} {v4 : Int32} {v5 : Int32} {o3 : Option Value} {o6 : Option Value} {o7 : Option Value} {o8 : Option Value} {o9 : Option Value} {r : Int32 × zS}, k63 σ v1 v2 v4 v5 = some r → zx_go 4 229 63 [some (.ref 82), some (.int v1), some (.int v2), o3, some (.int v4), some (.int v5), o6, o7, o8, o9] [] ((119, a, b), zx_pk (zK L) 119, σ, τ, zR) = some (some (.int r.1), ((119, a, b), zx_pk (zK L) 119, r.2, τ, zR))) {σ : zS} {τ : zT} {v1 : Int32} {v2 : Int32} {v4 : Int32} {v5 : Int32} {o3 : Option Value} {o6 : Option Value} {o7 : Option Value} {o8 : Option Value} {o9 : Option Value} {r : Int32 × zS} (H : zb_M_whole_371 k63 N σ v1 v2 v4 v5 = some r) : zx_go 4 229 371 [some (.ref 82), some (.int v1), some (.int v2), o3, some (.int v4), some (.int v5), o6, o7, o8, o9] [] ((119, a, b), zx_pk (zK L) 119, σ, τ, zR) = some (some (.int r.1), ((119, a, b), zx_pk (zK L) 119, r.2, τ, zR)) := by
  unfold zb_M_whole_371 at H
  rw [zs_iinc (ls := [some (.ref 82), some (.int v1), some (.int v2), o3, some (.int v4), some (.int v5), o6, o7, o8, o9]) (x := v5) (z := (v5 + 1)) (ls' := [some (.ref 82), some (.int v1), some (.int v2), o3, some (.int v4), some (.int (v5 + 1)), o6, o7, o8, o9]) zd_229_371 rfl rfl rfl]
  rw [zs_goto (t := 63) zd_229_374 rfl]
  exact hk63 H
set_option maxRecDepth 20000 in
theorem zt_M_whole_354 {a b L N : Nat} {k63 : zS → Int32 → Int32 → Int32 → Int32 → Option (Int32 × zS)} (hk63 : ∀ {σ : zS} {τ : zT} {v1 : Int32} {v2 : Int32} {v4 : Int32} {v5 : Int32} {o3 : Option Value} {o6 : Option Value} {o7 : Option Value} {o8 : Option Value} {o9 : Option Value} {r : Int32 × zS}, k63 σ v1 v2 v4 v5 = some r → zx_go 4 229 63 [some (.ref 82), some (.int v1), some (.int v2), o3, some (.int v4), some (.int v5), o6, o7, o8, o9] [] ((119, a, b), zx_pk (zK L) 119, σ, τ, zR) = some (some (.int r.1), ((119, a, b), zx_pk (zK L) 119, r.2, τ, zR))) {σ : zS} {τ : zT} {v1 : Int32} {v2 : Int32} {v4 : Int32} {v5 : Int32} {v8 : Int32} {o3 : Option Value} {o6 : Option Value} {o7 : Option Value} {o9 : Option Value} {r : Int32 × zS} (H : zb_M_whole_354 k63 N σ v1 v2 v4 v5 v8 = some r) : zx_go 4 229 354 [some (.ref 82), some (.int v1), some (.int v2), o3, some (.int v4), some (.int v5), o6, o7, some (.int v8), o9] [] ((119, a, b), zx_pk (zK L) 119, σ, τ, zR) = some (some (.int r.1), ((119, a, b), zx_pk (zK L) 119, r.2, τ, zR)) := by
  unfold zb_M_whole_354 at H
  rw [zs_iload (ls := [some (.ref 82), some (.int v1), some (.int v2), o3, some (.int v4), some (.int v5), o6, o7, some (.int v8), o9]) zd_229_354 rfl]
  by_cases c24 : v8 = 0
  · rw [if_pos c24] at H
    rw [zp_if_eq_t (x := v8) (t := 371) zd_229_356 rfl c24]
    exact zt_M_whole_371 (hk63 := hk63) H
  · rw [if_neg c24] at H
    rw [zp_if_eq_f (x := v8) (t := 371) zd_229_356 rfl c24]
    rw [zs_aload_n (ls := [some (.ref 82), some (.int v1), some (.int v2), o3, some (.int v4), some (.int v5), o6, o7, some (.int v8), o9]) zd_229_359 rfl]
    rw [zs_getR (n := 119) (K := zx_pk (zK L) 119) (ρ := zR) (c := 12) (k := 63) (q := 82) (p := 117) zd_229_360 rfl rfl rfl (by decide) rfl]
    rw [zs_iload (ls := [some (.ref 82), some (.int v1), some (.int v2), o3, some (.int v4), some (.int v5), o6, o7, some (.int v8), o9]) zd_229_363 rfl]
    rw [zs_iload (ls := [some (.ref 82), some (.int v1), some (.int v2), o3, some (.int v4), some (.int v5), o6, o7, some (.int v8), o9]) zd_229_365 rfl]
    by_cases c25 : 0 ≤ v4 ∧ v4 < 4000
    · rw [if_pos c25] at H
      rw [zp_iastore (n := 119) (K := zx_pk (zK L) 119) (q := 117) (m := 4000) (i := v4) (k := v4.toNatClampNeg) (x := v5) (z := v5) zd_229_367 rfl ⟨by decide, by decide⟩ (zJ_in c25 rfl) rfl rfl]
      rw [zs_iinc (ls := [some (.ref 82), some (.int v1), some (.int v2), o3, some (.int v4), some (.int v5), o6, o7, some (.int v8), o9]) (x := v4) (z := (v4 + 1)) (ls' := [some (.ref 82), some (.int v1), some (.int v2), (zJ_cl o3), some (.int (v4 + 1)), some (.int v5), o6, o7, some (.int v8), o9]) zd_229_368 rfl rfl (zJ_s1 (k := 3) (o := o3) rfl)]
      exact zt_M_whole_371 (hk63 := hk63) H
    · rw [if_neg c25] at H
      cases H
set_option maxRecDepth 20000 in
theorem zt_M_whole_346 {a b L N : Nat} {k313 : zS → Int32 → Int32 → Int32 → Int32 → Int32 → Int32 → Option (Int32 × zS)} (hk313 : ∀ {σ : zS} {τ : zT} {v1 : Int32} {v2 : Int32} {v4 : Int32} {v5 : Int32} {v8 : Int32} {v9 : Int32} {o3 : Option Value} {o6 : Option Value} {o7 : Option Value} {r : Int32 × zS}, k313 σ v1 v2 v4 v5 v8 v9 = some r → zx_go 4 229 313 [some (.ref 82), some (.int v1), some (.int v2), o3, some (.int v4), some (.int v5), o6, o7, some (.int v8), some (.int v9)] [] ((119, a, b), zx_pk (zK L) 119, σ, τ, zR) = some (some (.int r.1), ((119, a, b), zx_pk (zK L) 119, r.2, τ, zR))) {σ : zS} {τ : zT} {v1 : Int32} {v2 : Int32} {v4 : Int32} {v5 : Int32} {v9 : Int32} {s0 : Int32} {o3 : Option Value} {o6 : Option Value} {o7 : Option Value} {o8 : Option Value} {r : Int32 × zS} (H : zb_M_whole_346 k313 N σ v1 v2 v4 v5 v9 s0 = some r) : zx_go 4 229 346 [some (.ref 82), some (.int v1), some (.int v2), o3, some (.int v4), some (.int v5), o6, o7, o8, some (.int v9)] [.int s0] ((119, a, b), zx_pk (zK L) 119, σ, τ, zR) = some (some (.int r.1), ((119, a, b), zx_pk (zK L) 119, r.2, τ, zR)) := by
  unfold zb_M_whole_346 at H
  rw [zs_istore (x := s0) (ls' := [some (.ref 82), some (.int v1), some (.int v2), o3, some (.int v4), some (.int v5), o6, (zJ_cl o7), some (.int s0), some (.int v9)]) zd_229_346 (Nat.le_of_ble_eq_true rfl) (zJ_s1 (k := 7) (o := o7) rfl)]
  rw [zs_iinc (ls := [some (.ref 82), some (.int v1), some (.int v2), o3, some (.int v4), some (.int v5), o6, (zJ_cl o7), some (.int s0), some (.int v9)]) (x := v9) (z := (v9 + 1)) (ls' := [some (.ref 82), some (.int v1), some (.int v2), o3, some (.int v4), some (.int v5), o6, (zJ_cl o7), some (.int s0), some (.int (v9 + 1))]) zd_229_348 rfl rfl rfl]
  rw [zs_goto (t := 313) zd_229_351 rfl]
  exact hk313 H
set_option maxRecDepth 20000 in
theorem zt_M_whole_313 {a b L N : Nat} {k63 : zS → Int32 → Int32 → Int32 → Int32 → Option (Int32 × zS)} (hk63 : ∀ {σ : zS} {τ : zT} {v1 : Int32} {v2 : Int32} {v4 : Int32} {v5 : Int32} {o3 : Option Value} {o6 : Option Value} {o7 : Option Value} {o8 : Option Value} {o9 : Option Value} {r : Int32 × zS}, k63 σ v1 v2 v4 v5 = some r → zx_go 4 229 63 [some (.ref 82), some (.int v1), some (.int v2), o3, some (.int v4), some (.int v5), o6, o7, o8, o9] [] ((119, a, b), zx_pk (zK L) 119, σ, τ, zR) = some (some (.int r.1), ((119, a, b), zx_pk (zK L) 119, r.2, τ, zR))) : ∀ {n : Nat} {σ : zS} {τ : zT} {v1 : Int32} {v2 : Int32} {v4 : Int32} {v5 : Int32} {v8 : Int32} {v9 : Int32} {o3 : Option Value} {o6 : Option Value} {o7 : Option Value} {r : Int32 × zS}, zb_M_whole_313 k63 N n σ v1 v2 v4 v5 v8 v9 = some r → zx_go 4 229 313 [some (.ref 82), some (.int v1), some (.int v2), o3, some (.int v4), some (.int v5), o6, o7, some (.int v8), some (.int v9)] [] ((119, a, b), zx_pk (zK L) 119, σ, τ, zR) = some (some (.int r.1), ((119, a, b), zx_pk (zK L) 119, r.2, τ, zR)) := by
  intro n
  induction n with
  | zero =>
    intro _ _ _ _ _ _ _ _ _ _ _ _ H
    cases H
  | succ n ih =>
    intro σ τ v1 v2 v4 v5 v8 v9 o3 o6 o7 r H
    rw [zb_M_whole_313] at H
    rw [zs_iload (ls := [some (.ref 82), some (.int v1), some (.int v2), o3, some (.int v4), some (.int v5), o6, o7, some (.int v8), some (.int v9)]) zd_229_313 rfl]
    rw [zs_iload (ls := [some (.ref 82), some (.int v1), some (.int v2), o3, some (.int v4), some (.int v5), o6, o7, some (.int v8), some (.int v9)]) zd_229_315 rfl]
    by_cases c23 : v4 ≤ v9
    · rw [if_pos c23] at H
      rw [zp_icmp_ge_t (x := v9) (y := v4) (t := 354) zd_229_317 rfl c23]
      exact zt_M_whole_354 (hk63 := hk63) H
    · rw [if_neg c23] at H
      rw [zp_icmp_ge_f (x := v9) (y := v4) (t := 354) zd_229_317 rfl c23]
      rw [zs_iload (ls := [some (.ref 82), some (.int v1), some (.int v2), o3, some (.int v4), some (.int v5), o6, o7, some (.int v8), some (.int v9)]) zd_229_320 rfl]
      by_cases c26 : v8 = 0
      · rw [if_pos c26] at H
        rw [zp_if_eq_t (x := v8) (t := 354) zd_229_322 rfl c26]
        exact zt_M_whole_354 (hk63 := hk63) H
      · rw [if_neg c26] at H
        rw [zp_if_eq_f (x := v8) (t := 354) zd_229_322 rfl c26]
        rw [zs_aload_n (ls := [some (.ref 82), some (.int v1), some (.int v2), o3, some (.int v4), some (.int v5), o6, o7, some (.int v8), some (.int v9)]) zd_229_325 rfl]
        rw [zs_aload_n (ls := [some (.ref 82), some (.int v1), some (.int v2), o3, some (.int v4), some (.int v5), o6, o7, some (.int v8), some (.int v9)]) zd_229_326 rfl]
        rw [zs_getR (n := 119) (K := zx_pk (zK L) 119) (ρ := zR) (c := 12) (k := 63) (q := 82) (p := 117) zd_229_327 rfl rfl rfl (by decide) rfl]
        rw [zs_iload (ls := [some (.ref 82), some (.int v1), some (.int v2), o3, some (.int v4), some (.int v5), o6, o7, some (.int v8), some (.int v9)]) zd_229_330 rfl]
        by_cases c27 : 0 ≤ v9 ∧ v9 < 4000
        · rw [if_pos c27] at H
          rw [zp_iaload (n := 119) (K := zx_pk (zK L) 119) (σ := σ) (q := 117) (m := 4000) (i := v9) (k := v9.toNatClampNeg) (v := (σ 117 v9.toNatClampNeg)) zd_229_332 rfl (by decide) (zJ_in c27 rfl) rfl rfl]
          rw [zs_iload (ls := [some (.ref 82), some (.int v1), some (.int v2), o3, some (.int v4), some (.int v5), o6, o7, some (.int v8), some (.int v9)]) zd_229_333 rfl]
          obtain ⟨r28, hr28, H⟩ := Option.bind_eq_some_iff.mp H
          rw [zp_callVi (x := r28) (st := [.int v5, .int (σ 117 v9.toNatClampNeg), .ref 82]) (as := [.ref 82, .int (σ 117 v9.toNatClampNeg), .int v5]) (rest := []) (e := 1) zd_229_335 rfl (by decide +kernel) (by decide) rfl rfl (Nat.le_of_ble_eq_true rfl) (zx_rcb_ok rfl (show 82 < 119 by decide)) (Nat.le_of_ble_eq_true rfl) rfl (by decide) (zt_M_isOutcome hr28)]
          by_cases c29 : ¬ r28 = 0
          · rw [if_pos c29] at H
            rw [zp_if_ne_t (x := r28) (t := 345) zd_229_338 rfl c29]
            rw [zs_iconst (z := 0) zd_229_345 (by decide)]
            exact zt_M_whole_346 (hk313 := ih) H
          · rw [if_neg c29] at H
            rw [zp_if_ne_f (x := r28) (t := 345) zd_229_338 rfl c29]
            rw [zs_iconst (z := 1) zd_229_341 (by decide)]
            rw [zs_goto (t := 346) zd_229_342 rfl]
            exact zt_M_whole_346 (hk313 := ih) H
        · rw [if_neg c27] at H
          cases H
set_option maxRecDepth 20000 in
theorem zt_M_whole_296 {a b L N : Nat} {k147 : zS → Int32 → Int32 → Int32 → Int32 → Int32 → Int32 → Int32 → Option (Int32 × zS)} (hk147 : ∀ {σ : zS} {τ : zT} {v1 : Int32} {v2 : Int32} {v4 : Int32} {v5 : Int32} {v6 : Int32} {v7 : Int32} {v8 : Int32} {o3 : Option Value} {o9 : Option Value} {r : Int32 × zS}, k147 σ v1 v2 v4 v5 v6 v7 v8 = some r → zx_go 4 229 147 [some (.ref 82), some (.int v1), some (.int v2), o3, some (.int v4), some (.int v5), some (.int v6), some (.int v7), some (.int v8), o9] [] ((119, a, b), zx_pk (zK L) 119, σ, τ, zR) = some (some (.int r.1), ((119, a, b), zx_pk (zK L) 119, r.2, τ, zR))) {σ : zS} {τ : zT} {v1 : Int32} {v2 : Int32} {v4 : Int32} {v5 : Int32} {v6 : Int32} {v7 : Int32} {v8 : Int32} {o3 : Option Value} {o9 : Option Value} {r : Int32 × zS} (H : zb_M_whole_296 k147 N σ v1 v2 v4 v5 v6 v7 v8 = some r) : zx_go 4 229 296 [some (.ref 82), some (.int v1), some (.int v2), o3, some (.int v4), some (.int v5), some (.int v6), some (.int v7), some (.int v8), o9] [] ((119, a, b), zx_pk (zK L) 119, σ, τ, zR) = some (some (.int r.1), ((119, a, b), zx_pk (zK L) 119, r.2, τ, zR)) := by
  unfold zb_M_whole_296 at H
  rw [zs_iinc (ls := [some (.ref 82), some (.int v1), some (.int v2), o3, some (.int v4), some (.int v5), some (.int v6), some (.int v7), some (.int v8), o9]) (x := v8) (z := (v8 + 1)) (ls' := [some (.ref 82), some (.int v1), some (.int v2), o3, some (.int v4), some (.int v5), some (.int v6), some (.int v7), some (.int (v8 + 1)), o9]) zd_229_296 rfl rfl rfl]
  rw [zs_goto (t := 147) zd_229_299 rfl]
  exact hk147 H
set_option maxRecDepth 20000 in
theorem zt_M_whole_284 {a b L N : Nat} {k147 : zS → Int32 → Int32 → Int32 → Int32 → Int32 → Int32 → Int32 → Option (Int32 × zS)} (hk147 : ∀ {σ : zS} {τ : zT} {v1 : Int32} {v2 : Int32} {v4 : Int32} {v5 : Int32} {v6 : Int32} {v7 : Int32} {v8 : Int32} {o3 : Option Value} {o9 : Option Value} {r : Int32 × zS}, k147 σ v1 v2 v4 v5 v6 v7 v8 = some r → zx_go 4 229 147 [some (.ref 82), some (.int v1), some (.int v2), o3, some (.int v4), some (.int v5), some (.int v6), some (.int v7), some (.int v8), o9] [] ((119, a, b), zx_pk (zK L) 119, σ, τ, zR) = some (some (.int r.1), ((119, a, b), zx_pk (zK L) 119, r.2, τ, zR))) {σ : zS} {τ : zT} {v1 : Int32} {v2 : Int32} {v4 : Int32} {v5 : Int32} {v6 : Int32} {v7 : Int32} {v8 : Int32} {s0 : Int32} {s1 : Int32} {o3 : Option Value} {o9 : Option Value} {r : Int32 × zS} (H : zb_M_whole_284 k147 N σ v1 v2 v4 v5 v6 v7 v8 s0 s1 = some r) : zx_go 4 229 284 [some (.ref 82), some (.int v1), some (.int v2), o3, some (.int v4), some (.int v5), some (.int v6), some (.int v7), some (.int v8), o9] [.int s0, .int s1, .ref 107] ((119, a, b), zx_pk (zK L) 119, σ, τ, zR) = some (some (.int r.1), ((119, a, b), zx_pk (zK L) 119, r.2, τ, zR)) := by
  unfold zb_M_whole_284 at H
  by_cases c41 : 0 ≤ s1 ∧ s1 < 40
  · rw [if_pos c41] at H
    rw [zp_iastore (n := 119) (K := zx_pk (zK L) 119) (q := 107) (m := 40) (i := s1) (k := s1.toNatClampNeg) (x := s0) (z := s0) zd_229_284 rfl ⟨by decide, by decide⟩ (zJ_in c41 rfl) rfl rfl]
    rw [zs_aload_n (ls := [some (.ref 82), some (.int v1), some (.int v2), o3, some (.int v4), some (.int v5), some (.int v6), some (.int v7), some (.int v8), o9]) zd_229_285 rfl]
    obtain ⟨r42, hr42, H⟩ := Option.bind_eq_some_iff.mp H
    rw [zp_callVi (x := r42.1) (st := [.ref 82]) (as := [.ref 82]) (rest := []) (e := 0) zd_229_286 rfl (by decide +kernel) (by decide) rfl rfl (Nat.le_of_ble_eq_true rfl) (zx_rcb_ok rfl (show 82 < 119 by decide)) (Nat.le_of_ble_eq_true rfl) rfl (by decide) (zt_M_put hr42)]
    rw [zs_iconst (z := (-1)) zd_229_289 (by decide)]
    by_cases c43 : ¬ r42.1 = (-1)
    · rw [if_pos c43] at H
      rw [zp_icmp_ne_t (x := r42.1) (y := (-1)) (t := 296) zd_229_290 rfl c43]
      exact zt_M_whole_296 (hk147 := hk147) H
    · rw [if_neg c43] at H
      rw [zp_icmp_ne_f (x := r42.1) (y := (-1)) (t := 296) zd_229_290 rfl c43]
      rw [zs_bipush (z := (-103)) zd_229_293 (by decide)]
      have H := Option.some.inj H
      subst H
      exact zs_ireturn zd_229_295 (by decide +kernel)
  · rw [if_neg c41] at H
    cases H
set_option maxRecDepth 20000 in
theorem zt_M_whole_273 {a b L N : Nat} {k147 : zS → Int32 → Int32 → Int32 → Int32 → Int32 → Int32 → Int32 → Option (Int32 × zS)} (hk147 : ∀ {σ : zS} {τ : zT} {v1 : Int32} {v2 : Int32} {v4 : Int32} {v5 : Int32} {v6 : Int32} {v7 : Int32} {v8 : Int32} {o3 : Option Value} {o9 : Option Value} {r : Int32 × zS}, k147 σ v1 v2 v4 v5 v6 v7 v8 = some r → zx_go 4 229 147 [some (.ref 82), some (.int v1), some (.int v2), o3, some (.int v4), some (.int v5), some (.int v6), some (.int v7), some (.int v8), o9] [] ((119, a, b), zx_pk (zK L) 119, σ, τ, zR) = some (some (.int r.1), ((119, a, b), zx_pk (zK L) 119, r.2, τ, zR))) {σ : zS} {τ : zT} {v1 : Int32} {v2 : Int32} {v4 : Int32} {v5 : Int32} {v6 : Int32} {v7 : Int32} {v8 : Int32} {s0 : Int32} {o3 : Option Value} {o9 : Option Value} {r : Int32 × zS} (H : zb_M_whole_273 k147 N σ v1 v2 v4 v5 v6 v7 v8 s0 = some r) : zx_go 4 229 273 [some (.ref 82), some (.int v1), some (.int v2), o3, some (.int v4), some (.int v5), some (.int v6), some (.int v7), some (.int v8), o9] [.int s0, .ref 107] ((119, a, b), zx_pk (zK L) 119, σ, τ, zR) = some (some (.int r.1), ((119, a, b), zx_pk (zK L) 119, r.2, τ, zR)) := by
  unfold zb_M_whole_273 at H
  rw [zs_iconst (z := 0) zd_229_273 (by decide)]
  rw [zs_goto (t := 284) zd_229_274 rfl]
  exact zt_M_whole_284 (hk147 := hk147) H
set_option maxRecDepth 20000 in
theorem zt_M_whole_248 {a b L N : Nat} {k147 : zS → Int32 → Int32 → Int32 → Int32 → Int32 → Int32 → Int32 → Option (Int32 × zS)} (hk147 : ∀ {σ : zS} {τ : zT} {v1 : Int32} {v2 : Int32} {v4 : Int32} {v5 : Int32} {v6 : Int32} {v7 : Int32} {v8 : Int32} {o3 : Option Value} {o9 : Option Value} {r : Int32 × zS}, k147 σ v1 v2 v4 v5 v6 v7 v8 = some r → zx_go 4 229 147 [some (.ref 82), some (.int v1), some (.int v2), o3, some (.int v4), some (.int v5), some (.int v6), some (.int v7), some (.int v8), o9] [] ((119, a, b), zx_pk (zK L) 119, σ, τ, zR) = some (some (.int r.1), ((119, a, b), zx_pk (zK L) 119, r.2, τ, zR))) {σ : zS} {τ : zT} {v1 : Int32} {v2 : Int32} {v4 : Int32} {v5 : Int32} {v6 : Int32} {v7 : Int32} {v8 : Int32} {s0 : Int32} {s1 : Int32} {o3 : Option Value} {o9 : Option Value} {r : Int32 × zS} (H : zb_M_whole_248 k147 N σ v1 v2 v4 v5 v6 v7 v8 s0 s1 = some r) : zx_go 4 229 248 [some (.ref 82), some (.int v1), some (.int v2), o3, some (.int v4), some (.int v5), some (.int v6), some (.int v7), some (.int v8), o9] [.int s0, .int s1, .ref 107] ((119, a, b), zx_pk (zK L) 119, σ, τ, zR) = some (some (.int r.1), ((119, a, b), zx_pk (zK L) 119, r.2, τ, zR)) := by
  unfold zb_M_whole_248 at H
  by_cases c38 : 0 ≤ s1 ∧ s1 < 40
  · rw [if_pos c38] at H
    rw [zp_iastore (n := 119) (K := zx_pk (zK L) 119) (q := 107) (m := 40) (i := s1) (k := s1.toNatClampNeg) (x := s0) (z := s0) zd_229_248 rfl ⟨by decide, by decide⟩ (zJ_in c38 rfl) rfl rfl]
    rw [zs_aload_n (ls := [some (.ref 82), some (.int v1), some (.int v2), o3, some (.int v4), some (.int v5), some (.int v6), some (.int v7), some (.int v8), o9]) zd_229_249 rfl]
    rw [zs_getR (n := 119) (K := zx_pk (zK L) 119) (ρ := zR) (c := 12) (k := 47) (q := 82) (p := 107) zd_229_250 rfl rfl rfl (by decide) rfl]
    rw [zs_bipush (z := 38) zd_229_253 (by decide)]
    rw [zs_aload_n (ls := [some (.ref 82), some (.int v1), some (.int v2), o3, some (.int v4), some (.int v5), some (.int v6), some (.int v7), some (.int v8), o9]) zd_229_255 rfl]
    rw [zs_iload_n (ls := [some (.ref 82), some (.int v1), some (.int v2), o3, some (.int v4), some (.int v5), some (.int v6), some (.int v7), some (.int v8), o9]) zd_229_256 rfl]
    obtain ⟨r39, hr39, H⟩ := Option.bind_eq_some_iff.mp H
    rw [zp_callVi (x := r39) (st := [.int v2, .ref 82, .int 38, .ref 107]) (as := [.ref 82, .int v2]) (rest := [.int 38, .ref 107]) (e := 1) zd_229_257 rfl (by decide +kernel) (by decide) rfl rfl (Nat.le_of_ble_eq_true rfl) (zx_rcb_ok rfl (show 82 < 119 by decide)) (Nat.le_of_ble_eq_true rfl) rfl (by decide) (zt_M_stateOf hr39)]
    rw [zs_iconst (z := 4) zd_229_260 (by decide)]
    by_cases c40 : r39 = 4
    · rw [if_pos c40] at H
      rw [zp_icmp_eq_t (x := r39) (y := 4) (t := 273) zd_229_261 rfl c40]
      exact zt_M_whole_273 (hk147 := hk147) H
    · rw [if_neg c40] at H
      rw [zp_icmp_eq_f (x := r39) (y := 4) (t := 273) zd_229_261 rfl c40]
      rw [zs_aload_n (ls := [some (.ref 82), some (.int v1), some (.int v2), o3, some (.int v4), some (.int v5), some (.int v6), some (.int v7), some (.int v8), o9]) zd_229_264 rfl]
      rw [zs_iload_n (ls := [some (.ref 82), some (.int v1), some (.int v2), o3, some (.int v4), some (.int v5), some (.int v6), some (.int v7), some (.int v8), o9]) zd_229_265 rfl]
      obtain ⟨r44, hr44, H⟩ := Option.bind_eq_some_iff.mp H
      rw [zp_callVi (x := r44) (st := [.int v2, .ref 82, .int 38, .ref 107]) (as := [.ref 82, .int v2]) (rest := [.int 38, .ref 107]) (e := 1) zd_229_266 rfl (by decide +kernel) (by decide) rfl rfl (Nat.le_of_ble_eq_true rfl) (zx_rcb_ok rfl (show 82 < 119 by decide)) (Nat.le_of_ble_eq_true rfl) rfl (by decide) (zt_M_stateOf hr44)]
      rw [zs_iconst (z := 5) zd_229_269 (by decide)]
      by_cases c45 : ¬ r44 = 5
      · rw [if_pos c45] at H
        rw [zp_icmp_ne_t (x := r44) (y := 5) (t := 277) zd_229_270 rfl c45]
        rw [zs_aload_n (ls := [some (.ref 82), some (.int v1), some (.int v2), o3, some (.int v4), some (.int v5), some (.int v6), some (.int v7), some (.int v8), o9]) zd_229_277 rfl]
        rw [zs_getR (n := 119) (K := zx_pk (zK L) 119) (ρ := zR) (c := 12) (k := 47) (q := 82) (p := 107) zd_229_278 rfl rfl rfl (by decide) rfl]
        rw [zs_bipush (z := 38) zd_229_281 (by decide)]
        rw [zp_iaload (n := 119) (K := zx_pk (zK L) 119) (σ := (zx_up σ 107 s1.toNatClampNeg s0)) (q := 107) (m := 40) (i := 38) (k := 38) (v := ((zx_up σ 107 s1.toNatClampNeg s0) 107 38)) zd_229_283 rfl (by decide) (by decide) (by decide) rfl]
        exact zt_M_whole_284 (hk147 := hk147) H
      · rw [if_neg c45] at H
        rw [zp_icmp_ne_f (x := r44) (y := 5) (t := 277) zd_229_270 rfl c45]
        exact zt_M_whole_273 (hk147 := hk147) H
  · rw [if_neg c38] at H
    cases H
set_option maxRecDepth 20000 in
theorem zt_M_whole_182 {a b L N : Nat} {k147 : zS → Int32 → Int32 → Int32 → Int32 → Int32 → Int32 → Int32 → Option (Int32 × zS)} (hk147 : ∀ {σ : zS} {τ : zT} {v1 : Int32} {v2 : Int32} {v4 : Int32} {v5 : Int32} {v6 : Int32} {v7 : Int32} {v8 : Int32} {o3 : Option Value} {o9 : Option Value} {r : Int32 × zS}, k147 σ v1 v2 v4 v5 v6 v7 v8 = some r → zx_go 4 229 147 [some (.ref 82), some (.int v1), some (.int v2), o3, some (.int v4), some (.int v5), some (.int v6), some (.int v7), some (.int v8), o9] [] ((119, a, b), zx_pk (zK L) 119, σ, τ, zR) = some (some (.int r.1), ((119, a, b), zx_pk (zK L) 119, r.2, τ, zR))) {σ : zS} {τ : zT} {v1 : Int32} {v2 : Int32} {v4 : Int32} {v5 : Int32} {v6 : Int32} {v8 : Int32} {o3 : Option Value} {o7 : Option Value} {o9 : Option Value} {r : Int32 × zS} (H : zb_M_whole_182 k147 N σ v1 v2 v4 v5 v6 v8 = some r) : zx_go 4 229 182 [some (.ref 82), some (.int v1), some (.int v2), o3, some (.int v4), some (.int v5), some (.int v6), o7, some (.int v8), o9] [] ((119, a, b), zx_pk (zK L) 119, σ, τ, zR) = some (some (.int r.1), ((119, a, b), zx_pk (zK L) 119, r.2, τ, zR)) := by
  unfold zb_M_whole_182 at H
  rw [zs_iconst (z := 0) zd_229_182 (by decide)]
  rw [zs_istore (x := 0) (ls' := [some (.ref 82), some (.int v1), some (.int v2), o3, some (.int v4), some (.int v5), some (.int v6), some (.int 0), some (.int v8), o9]) zd_229_183 (Nat.le_of_ble_eq_true rfl) rfl]
  rw [zs_bipush (z := 24) zd_229_185 (by decide)]
  rw [zs_iload (ls := [some (.ref 82), some (.int v1), some (.int v2), o3, some (.int v4), some (.int v5), some (.int v6), some (.int 0), some (.int v8), o9]) zd_229_187 rfl]
  rw [zp_imul (x := 24) (y := v8) (z := (24 * v8)) zd_229_189 rfl]
  rw [zs_aload_n (ls := [some (.ref 82), some (.int v1), some (.int v2), o3, some (.int v4), some (.int v5), some (.int v6), some (.int 0), some (.int v8), o9]) zd_229_190 rfl]
  rw [zs_getR (n := 119) (K := zx_pk (zK L) 119) (ρ := zR) (c := 12) (k := 47) (q := 82) (p := 107) zd_229_191 rfl rfl rfl (by decide) rfl]
  rw [zs_aload_n (ls := [some (.ref 82), some (.int v1), some (.int v2), o3, some (.int v4), some (.int v5), some (.int v6), some (.int 0), some (.int v8), o9]) zd_229_194 rfl]
  rw [zs_iload (ls := [some (.ref 82), some (.int v1), some (.int v2), o3, some (.int v4), some (.int v5), some (.int v6), some (.int 0), some (.int v8), o9]) zd_229_195 rfl]
  obtain ⟨r34, hr34, H⟩ := Option.bind_eq_some_iff.mp H
  rw [zp_callVi (x := r34) (st := [.int v8, .ref 82, .ref 107, .int (24 * v8)]) (as := [.ref 82, .int v8]) (rest := [.ref 107, .int (24 * v8)]) (e := 0) zd_229_197 rfl (by decide +kernel) (by decide) rfl rfl (Nat.le_of_ble_eq_true rfl) (zx_rcb_ok rfl (show 82 < 119 by decide)) (Nat.le_of_ble_eq_true rfl) rfl (by decide) (zt_M_at hr34)]
  by_cases c35 : 0 ≤ r34 ∧ r34 < 40
  · rw [if_pos c35] at H
    rw [zp_iaload (n := 119) (K := zx_pk (zK L) 119) (σ := σ) (q := 107) (m := 40) (i := r34) (k := r34.toNatClampNeg) (v := (σ 107 r34.toNatClampNeg)) zd_229_200 rfl (by decide) (zJ_in c35 rfl) rfl rfl]
    rw [zp_iadd (x := (24 * v8)) (y := (σ 107 r34.toNatClampNeg)) (z := ((24 * v8) + (σ 107 r34.toNatClampNeg))) zd_229_201 rfl]
    rw [zs_istore (x := ((24 * v8) + (σ 107 r34.toNatClampNeg))) (ls' := [some (.ref 82), some (.int v1), some (.int v2), o3, some (.int v4), some (.int v5), some (.int v6), some (.int 0), some (.int v8), some (.int ((24 * v8) + (σ 107 r34.toNatClampNeg)))]) zd_229_202 (Nat.le_of_ble_eq_true rfl) rfl]
    rw [zs_aload_n (ls := [some (.ref 82), some (.int v1), some (.int v2), o3, some (.int v4), some (.int v5), some (.int v6), some (.int 0), some (.int v8), some (.int ((24 * v8) + (σ 107 r34.toNatClampNeg)))]) zd_229_204 rfl]
    rw [zs_iload (ls := [some (.ref 82), some (.int v1), some (.int v2), o3, some (.int v4), some (.int v5), some (.int v6), some (.int 0), some (.int v8), some (.int ((24 * v8) + (σ 107 r34.toNatClampNeg)))]) zd_229_205 rfl]
    obtain ⟨r36, hr36, H⟩ := Option.bind_eq_some_iff.mp H
    rw [zp_callVv (st := [.int v8, .ref 82]) (as := [.ref 82, .int v8]) (rest := []) (e := 3) zd_229_207 rfl (by decide +kernel) (by decide) rfl rfl (Nat.le_of_ble_eq_true rfl) (zx_rcb_ok rfl (show 82 < 119 by decide)) (Nat.le_of_ble_eq_true rfl) rfl (by decide) (zt_M_doStep hr36)]
    rw [zs_aload_n (ls := [some (.ref 82), some (.int v1), some (.int v2), o3, some (.int v4), some (.int v5), some (.int v6), some (.int 0), some (.int v8), some (.int ((24 * v8) + (σ 107 r34.toNatClampNeg)))]) zd_229_210 rfl]
    rw [zs_getR (n := 119) (K := zx_pk (zK L) 119) (ρ := zR) (c := 12) (k := 47) (q := 82) (p := 107) zd_229_211 rfl rfl rfl (by decide) rfl]
    rw [zs_bipush (z := 38) zd_229_214 (by decide)]
    rw [zs_iload (ls := [some (.ref 82), some (.int v1), some (.int v2), o3, some (.int v4), some (.int v5), some (.int v6), some (.int 0), some (.int v8), some (.int ((24 * v8) + (σ 107 r34.toNatClampNeg)))]) zd_229_216 rfl]
    rw [zs_iload_n (ls := [some (.ref 82), some (.int v1), some (.int v2), o3, some (.int v4), some (.int v5), some (.int v6), some (.int 0), some (.int v8), some (.int ((24 * v8) + (σ 107 r34.toNatClampNeg)))]) zd_229_218 rfl]
    by_cases c37 : ¬ v8 = v2
    · rw [if_pos c37] at H
      rw [zp_icmp_ne_t (x := v8) (y := v2) (t := 241) zd_229_219 rfl c37]
      rw [zs_aload_n (ls := [some (.ref 82), some (.int v1), some (.int v2), o3, some (.int v4), some (.int v5), some (.int v6), some (.int 0), some (.int v8), some (.int ((24 * v8) + (σ 107 r34.toNatClampNeg)))]) zd_229_241 rfl]
      rw [zs_getR (n := 119) (K := zx_pk (zK L) 119) (ρ := zR) (c := 12) (k := 47) (q := 82) (p := 107) zd_229_242 rfl rfl rfl (by decide) rfl]
      rw [zs_bipush (z := 38) zd_229_245 (by decide)]
      rw [zp_iaload (n := 119) (K := zx_pk (zK L) 119) (σ := r36) (q := 107) (m := 40) (i := 38) (k := 38) (v := (r36 107 38)) zd_229_247 rfl (by decide) (by decide) (by decide) rfl]
      exact zt_M_whole_248 (hk147 := hk147) H
    · rw [if_neg c37] at H
      rw [zp_icmp_ne_f (x := v8) (y := v2) (t := 241) zd_229_219 rfl c37]
      rw [zs_aload_n (ls := [some (.ref 82), some (.int v1), some (.int v2), o3, some (.int v4), some (.int v5), some (.int v6), some (.int 0), some (.int v8), some (.int ((24 * v8) + (σ 107 r34.toNatClampNeg)))]) zd_229_222 rfl]
      rw [zs_getR (n := 119) (K := zx_pk (zK L) 119) (ρ := zR) (c := 12) (k := 32) (q := 82) (p := 97) zd_229_223 rfl rfl rfl (by decide) rfl]
      rw [zs_iload (ls := [some (.ref 82), some (.int v1), some (.int v2), o3, some (.int v4), some (.int v5), some (.int v6), some (.int 0), some (.int v8), some (.int ((24 * v8) + (σ 107 r34.toNatClampNeg)))]) zd_229_226 rfl]
      by_cases c46 : 0 ≤ ((24 * v8) + (σ 107 r34.toNatClampNeg)) ∧ ((24 * v8) + (σ 107 r34.toNatClampNeg)) < 96
      · rw [if_pos c46] at H
        rw [zp_iaload (n := 119) (K := zx_pk (zK L) 119) (σ := r36) (q := 97) (m := 96) (i := ((24 * v8) + (σ 107 r34.toNatClampNeg))) (k := ((24 * v8) + (σ 107 r34.toNatClampNeg)).toNatClampNeg) (v := (r36 97 ((24 * v8) + (σ 107 r34.toNatClampNeg)).toNatClampNeg)) zd_229_228 rfl (by decide) (zJ_in c46 rfl) rfl rfl]
        rw [zs_iload_n (ls := [some (.ref 82), some (.int v1), some (.int v2), o3, some (.int v4), some (.int v5), some (.int v6), some (.int 0), some (.int v8), some (.int ((24 * v8) + (σ 107 r34.toNatClampNeg)))]) zd_229_229 rfl]
        by_cases c47 : ¬ (r36 97 ((24 * v8) + (σ 107 r34.toNatClampNeg)).toNatClampNeg) = v1
        · rw [if_pos c47] at H
          rw [zp_icmp_ne_t (x := (r36 97 ((24 * v8) + (σ 107 r34.toNatClampNeg)).toNatClampNeg)) (y := v1) (t := 237) zd_229_230 rfl c47]
          rw [zs_iconst (z := 0) zd_229_237 (by decide)]
          rw [zs_goto (t := 248) zd_229_238 rfl]
          exact zt_M_whole_248 (hk147 := hk147) H
        · rw [if_neg c47] at H
          rw [zp_icmp_ne_f (x := (r36 97 ((24 * v8) + (σ 107 r34.toNatClampNeg)).toNatClampNeg)) (y := v1) (t := 237) zd_229_230 rfl c47]
          rw [zs_iconst (z := 1) zd_229_233 (by decide)]
          rw [zs_goto (t := 248) zd_229_234 rfl]
          exact zt_M_whole_248 (hk147 := hk147) H
      · rw [if_neg c46] at H
        cases H
  · rw [if_neg c35] at H
    cases H
set_option maxRecDepth 20000 in
theorem zt_M_whole_147 {a b L N : Nat} {k63 : zS → Int32 → Int32 → Int32 → Int32 → Option (Int32 × zS)} (hk63 : ∀ {σ : zS} {τ : zT} {v1 : Int32} {v2 : Int32} {v4 : Int32} {v5 : Int32} {o3 : Option Value} {o6 : Option Value} {o7 : Option Value} {o8 : Option Value} {o9 : Option Value} {r : Int32 × zS}, k63 σ v1 v2 v4 v5 = some r → zx_go 4 229 63 [some (.ref 82), some (.int v1), some (.int v2), o3, some (.int v4), some (.int v5), o6, o7, o8, o9] [] ((119, a, b), zx_pk (zK L) 119, σ, τ, zR) = some (some (.int r.1), ((119, a, b), zx_pk (zK L) 119, r.2, τ, zR))) : ∀ {n : Nat} {σ : zS} {τ : zT} {v1 : Int32} {v2 : Int32} {v4 : Int32} {v5 : Int32} {v6 : Int32} {v7 : Int32} {v8 : Int32} {o3 : Option Value} {o9 : Option Value} {r : Int32 × zS}, zb_M_whole_147 k63 N n σ v1 v2 v4 v5 v6 v7 v8 = some r → zx_go 4 229 147 [some (.ref 82), some (.int v1), some (.int v2), o3, some (.int v4), some (.int v5), some (.int v6), some (.int v7), some (.int v8), o9] [] ((119, a, b), zx_pk (zK L) 119, σ, τ, zR) = some (some (.int r.1), ((119, a, b), zx_pk (zK L) 119, r.2, τ, zR)) := by
  intro n
  induction n with
  | zero =>
    intro _ _ _ _ _ _ _ _ _ _ _ _ H
    cases H
  | succ n ih =>
    intro σ τ v1 v2 v4 v5 v6 v7 v8 o3 o9 r H
    rw [zb_M_whole_147] at H
    rw [zs_iload (ls := [some (.ref 82), some (.int v1), some (.int v2), o3, some (.int v4), some (.int v5), some (.int v6), some (.int v7), some (.int v8), o9]) zd_229_147 rfl]
    rw [zs_aload_n (ls := [some (.ref 82), some (.int v1), some (.int v2), o3, some (.int v4), some (.int v5), some (.int v6), some (.int v7), some (.int v8), o9]) zd_229_149 rfl]
    rw [zp_getI (n := 119) (K := zx_pk (zK L) 119) (σ := σ) (c := 12) (k := 17) (q := 82) (v := (σ 82 17)) zd_229_150 rfl rfl rfl (by decide) rfl]
    by_cases c21 : (σ 82 17) ≤ v8
    · rw [if_pos c21] at H
      rw [zp_icmp_ge_t (x := v8) (y := (σ 82 17)) (t := 302) zd_229_153 rfl c21]
      rw [zs_iload (ls := [some (.ref 82), some (.int v1), some (.int v2), o3, some (.int v4), some (.int v5), some (.int v6), some (.int v7), some (.int v8), o9]) zd_229_302 rfl]
      by_cases c22 : v7 = 0
      · rw [if_pos c22] at H
        rw [zp_if_eq_t (x := v7) (t := 371) zd_229_304 rfl c22]
        exact zt_M_whole_371 (hk63 := hk63) H
      · rw [if_neg c22] at H
        rw [zp_if_eq_f (x := v7) (t := 371) zd_229_304 rfl c22]
        rw [zs_iconst (z := 1) zd_229_307 (by decide)]
        rw [zs_istore (x := 1) (ls' := [some (.ref 82), some (.int v1), some (.int v2), o3, some (.int v4), some (.int v5), some (.int v6), some (.int v7), some (.int 1), o9]) zd_229_308 (Nat.le_of_ble_eq_true rfl) rfl]
        rw [zs_iconst (z := 0) zd_229_310 (by decide)]
        rw [zs_istore (x := 0) (ls' := [some (.ref 82), some (.int v1), some (.int v2), o3, some (.int v4), some (.int v5), some (.int v6), some (.int v7), some (.int 1), some (.int 0)]) zd_229_311 (Nat.le_of_ble_eq_true rfl) rfl]
        exact zt_M_whole_313 (hk63 := hk63) H
    · rw [if_neg c21] at H
      rw [zp_icmp_ge_f (x := v8) (y := (σ 82 17)) (t := 302) zd_229_153 rfl c21]
      rw [zs_aload_n (ls := [some (.ref 82), some (.int v1), some (.int v2), o3, some (.int v4), some (.int v5), some (.int v6), some (.int v7), some (.int v8), o9]) zd_229_156 rfl]
      rw [zs_iload (ls := [some (.ref 82), some (.int v1), some (.int v2), o3, some (.int v4), some (.int v5), some (.int v6), some (.int v7), some (.int v8), o9]) zd_229_157 rfl]
      obtain ⟨r30, hr30, H⟩ := Option.bind_eq_some_iff.mp H
      rw [zp_callVv (st := [.int v5, .ref 82]) (as := [.ref 82, .int v5]) (rest := []) (e := 0) zd_229_159 rfl (by decide +kernel) (by decide) rfl rfl (Nat.le_of_ble_eq_true rfl) (zx_rcb_ok rfl (show 82 < 119 by decide)) (Nat.le_of_ble_eq_true rfl) rfl (by decide) (zt_M_load hr30)]
      rw [zs_aload_n (ls := [some (.ref 82), some (.int v1), some (.int v2), o3, some (.int v4), some (.int v5), some (.int v6), some (.int v7), some (.int v8), o9]) zd_229_162 rfl]
      rw [zs_iload (ls := [some (.ref 82), some (.int v1), some (.int v2), o3, some (.int v4), some (.int v5), some (.int v6), some (.int v7), some (.int v8), o9]) zd_229_163 rfl]
      obtain ⟨r31, hr31, H⟩ := Option.bind_eq_some_iff.mp H
      rw [zp_callVi (x := r31) (st := [.int v8, .ref 82]) (as := [.ref 82, .int v8]) (rest := []) (e := 2) zd_229_165 rfl (by decide +kernel) (by decide) rfl rfl (Nat.le_of_ble_eq_true rfl) (zx_rcb_ok rfl (show 82 < 119 by decide)) (Nat.le_of_ble_eq_true rfl) rfl (by decide) (zt_M_canStep hr31)]
      by_cases c32 : r31 = 0
      · rw [if_pos c32] at H
        rw [zp_if_eq_t (x := r31) (t := 296) zd_229_168 rfl c32]
        exact zt_M_whole_296 (hk147 := ih) H
      · rw [if_neg c32] at H
        rw [zp_if_eq_f (x := r31) (t := 296) zd_229_168 rfl c32]
        rw [zs_iload (ls := [some (.ref 82), some (.int v1), some (.int v2), o3, some (.int v4), some (.int v5), some (.int v6), some (.int v7), some (.int v8), o9]) zd_229_171 rfl]
        by_cases c33 : v6 = 0
        · rw [if_pos c33] at H
          rw [zp_if_eq_t (x := v6) (t := 182) zd_229_173 rfl c33]
          exact zt_M_whole_182 (hk147 := ih) H
        · rw [if_neg c33] at H
          rw [zp_if_eq_f (x := v6) (t := 182) zd_229_173 rfl c33]
          rw [zs_iload (ls := [some (.ref 82), some (.int v1), some (.int v2), o3, some (.int v4), some (.int v5), some (.int v6), some (.int v7), some (.int v8), o9]) zd_229_176 rfl]
          rw [zs_iload_n (ls := [some (.ref 82), some (.int v1), some (.int v2), o3, some (.int v4), some (.int v5), some (.int v6), some (.int v7), some (.int v8), o9]) zd_229_178 rfl]
          by_cases c48 : ¬ v8 = v2
          · rw [if_pos c48] at H
            rw [zp_icmp_ne_t (x := v8) (y := v2) (t := 296) zd_229_179 rfl c48]
            exact zt_M_whole_296 (hk147 := ih) H
          · rw [if_neg c48] at H
            rw [zp_icmp_ne_f (x := v8) (y := v2) (t := 296) zd_229_179 rfl c48]
            exact zt_M_whole_182 (hk147 := ih) H
set_option maxRecDepth 20000 in
theorem zt_M_whole_139 {a b L N : Nat} {k63 : zS → Int32 → Int32 → Int32 → Int32 → Option (Int32 × zS)} (hk63 : ∀ {σ : zS} {τ : zT} {v1 : Int32} {v2 : Int32} {v4 : Int32} {v5 : Int32} {o3 : Option Value} {o6 : Option Value} {o7 : Option Value} {o8 : Option Value} {o9 : Option Value} {r : Int32 × zS}, k63 σ v1 v2 v4 v5 = some r → zx_go 4 229 63 [some (.ref 82), some (.int v1), some (.int v2), o3, some (.int v4), some (.int v5), o6, o7, o8, o9] [] ((119, a, b), zx_pk (zK L) 119, σ, τ, zR) = some (some (.int r.1), ((119, a, b), zx_pk (zK L) 119, r.2, τ, zR))) {σ : zS} {τ : zT} {v1 : Int32} {v2 : Int32} {v4 : Int32} {v5 : Int32} {s0 : Int32} {o3 : Option Value} {o6 : Option Value} {o7 : Option Value} {o8 : Option Value} {o9 : Option Value} {r : Int32 × zS} (H : zb_M_whole_139 k63 N σ v1 v2 v4 v5 s0 = some r) : zx_go 4 229 139 [some (.ref 82), some (.int v1), some (.int v2), o3, some (.int v4), some (.int v5), o6, o7, o8, o9] [.int s0] ((119, a, b), zx_pk (zK L) 119, σ, τ, zR) = some (some (.int r.1), ((119, a, b), zx_pk (zK L) 119, r.2, τ, zR)) := by
  unfold zb_M_whole_139 at H
  rw [zs_istore (x := s0) (ls' := [some (.ref 82), some (.int v1), some (.int v2), o3, some (.int v4), some (.int v5), some (.int s0), o7, o8, o9]) zd_229_139 (Nat.le_of_ble_eq_true rfl) rfl]
  rw [zs_iconst (z := 1) zd_229_141 (by decide)]
  rw [zs_istore (x := 1) (ls' := [some (.ref 82), some (.int v1), some (.int v2), o3, some (.int v4), some (.int v5), some (.int s0), some (.int 1), o8, o9]) zd_229_142 (Nat.le_of_ble_eq_true rfl) rfl]
  rw [zs_iconst (z := 0) zd_229_144 (by decide)]
  rw [zs_istore (x := 0) (ls' := [some (.ref 82), some (.int v1), some (.int v2), o3, some (.int v4), some (.int v5), some (.int s0), some (.int 1), some (.int 0), o9]) zd_229_145 (Nat.le_of_ble_eq_true rfl) rfl]
  exact zt_M_whole_147 (hk63 := hk63) H
set_option maxRecDepth 20000 in
theorem zt_M_whole_138 {a b L N : Nat} {k63 : zS → Int32 → Int32 → Int32 → Int32 → Option (Int32 × zS)} (hk63 : ∀ {σ : zS} {τ : zT} {v1 : Int32} {v2 : Int32} {v4 : Int32} {v5 : Int32} {o3 : Option Value} {o6 : Option Value} {o7 : Option Value} {o8 : Option Value} {o9 : Option Value} {r : Int32 × zS}, k63 σ v1 v2 v4 v5 = some r → zx_go 4 229 63 [some (.ref 82), some (.int v1), some (.int v2), o3, some (.int v4), some (.int v5), o6, o7, o8, o9] [] ((119, a, b), zx_pk (zK L) 119, σ, τ, zR) = some (some (.int r.1), ((119, a, b), zx_pk (zK L) 119, r.2, τ, zR))) {σ : zS} {τ : zT} {v1 : Int32} {v2 : Int32} {v4 : Int32} {v5 : Int32} {o3 : Option Value} {o6 : Option Value} {o7 : Option Value} {o8 : Option Value} {o9 : Option Value} {r : Int32 × zS} (H : zb_M_whole_138 k63 N σ v1 v2 v4 v5 = some r) : zx_go 4 229 138 [some (.ref 82), some (.int v1), some (.int v2), o3, some (.int v4), some (.int v5), o6, o7, o8, o9] [] ((119, a, b), zx_pk (zK L) 119, σ, τ, zR) = some (some (.int r.1), ((119, a, b), zx_pk (zK L) 119, r.2, τ, zR)) := by
  unfold zb_M_whole_138 at H
  rw [zs_iconst (z := 0) zd_229_138 (by decide)]
  exact zt_M_whole_139 (hk63 := hk63) H
set_option maxRecDepth 20000 in
theorem zt_M_whole_63 {a b L N : Nat} : ∀ {n : Nat} {σ : zS} {τ : zT} {v1 : Int32} {v2 : Int32} {v4 : Int32} {v5 : Int32} {o3 : Option Value} {o6 : Option Value} {o7 : Option Value} {o8 : Option Value} {o9 : Option Value} {r : Int32 × zS}, zb_M_whole_63 N n σ v1 v2 v4 v5 = some r → zx_go 4 229 63 [some (.ref 82), some (.int v1), some (.int v2), o3, some (.int v4), some (.int v5), o6, o7, o8, o9] [] ((119, a, b), zx_pk (zK L) 119, σ, τ, zR) = some (some (.int r.1), ((119, a, b), zx_pk (zK L) 119, r.2, τ, zR)) := by
  intro n
  induction n with
  | zero =>
    intro _ _ _ _ _ _ _ _ _ _ _ _ H
    cases H
  | succ n ih =>
    intro σ τ v1 v2 v4 v5 o3 o6 o7 o8 o9 r H
    rw [zb_M_whole_63] at H
    rw [zs_iload (ls := [some (.ref 82), some (.int v1), some (.int v2), o3, some (.int v4), some (.int v5), o6, o7, o8, o9]) zd_229_63 rfl]
    rw [zs_sipush (z := 4000) zd_229_65 (by decide)]
    rw [zs_aload_n (ls := [some (.ref 82), some (.int v1), some (.int v2), o3, some (.int v4), some (.int v5), o6, o7, o8, o9]) zd_229_68 rfl]
    rw [zp_getI (n := 119) (K := zx_pk (zK L) 119) (σ := σ) (c := 12) (k := 52) (q := 82) (v := (σ 82 52)) zd_229_69 rfl rfl rfl (by decide) rfl]
    rw [zp_iadd (x := 4000) (y := (σ 82 52)) (z := (4000 + (σ 82 52))) zd_229_72 rfl]
    by_cases c8 : (4000 + (σ 82 52)) ≤ v5
    · rw [if_pos c8] at H
      rw [zp_icmp_ge_t (x := v5) (y := (4000 + (σ 82 52))) (t := 377) zd_229_73 rfl c8]
      rw [zs_iload (ls := [some (.ref 82), some (.int v1), some (.int v2), o3, some (.int v4), some (.int v5), o6, o7, o8, o9]) zd_229_377 rfl]
      rw [zs_aload_n (ls := [some (.ref 82), some (.int v1), some (.int v2), o3, some (.int v4), some (.int v5), o6, o7, o8, o9]) zd_229_379 rfl]
      rw [zp_getI (n := 119) (K := zx_pk (zK L) 119) (σ := σ) (c := 12) (k := 60) (q := 82) (v := (σ 82 60)) zd_229_380 rfl rfl rfl (by decide) rfl]
      by_cases c9 : ¬ v4 = (σ 82 60)
      · rw [if_pos c9] at H
        rw [zp_icmp_ne_t (x := v4) (y := (σ 82 60)) (t := 390) zd_229_383 rfl c9]
        rw [zs_iconst (z := 0) zd_229_390 (by decide)]
        exact zt_M_whole_391  H
      · rw [if_neg c9] at H
        rw [zp_icmp_ne_f (x := v4) (y := (σ 82 60)) (t := 390) zd_229_383 rfl c9]
        rw [zs_iconst (z := 1) zd_229_386 (by decide)]
        rw [zs_goto (t := 391) zd_229_387 rfl]
        exact zt_M_whole_391  H
    · rw [if_neg c8] at H
      rw [zp_icmp_ge_f (x := v5) (y := (4000 + (σ 82 52))) (t := 377) zd_229_73 rfl c8]
      rw [zs_aload_n (ls := [some (.ref 82), some (.int v1), some (.int v2), o3, some (.int v4), some (.int v5), o6, o7, o8, o9]) zd_229_76 rfl]
      rw [zs_iload (ls := [some (.ref 82), some (.int v1), some (.int v2), o3, some (.int v4), some (.int v5), o6, o7, o8, o9]) zd_229_77 rfl]
      obtain ⟨r19, hr19, H⟩ := Option.bind_eq_some_iff.mp H
      rw [zp_callVv (st := [.int v5, .ref 82]) (as := [.ref 82, .int v5]) (rest := []) (e := 0) zd_229_79 rfl (by decide +kernel) (by decide) rfl rfl (Nat.le_of_ble_eq_true rfl) (zx_rcb_ok rfl (show 82 < 119 by decide)) (Nat.le_of_ble_eq_true rfl) rfl (by decide) (zt_M_load hr19)]
      rw [zs_aload_n (ls := [some (.ref 82), some (.int v1), some (.int v2), o3, some (.int v4), some (.int v5), o6, o7, o8, o9]) zd_229_82 rfl]
      rw [zs_getR (n := 119) (K := zx_pk (zK L) 119) (ρ := zR) (c := 12) (k := 47) (q := 82) (p := 107) zd_229_83 rfl rfl rfl (by decide) rfl]
      rw [zs_bipush (z := 38) zd_229_86 (by decide)]
      rw [zp_iaload (n := 119) (K := zx_pk (zK L) 119) (σ := r19) (q := 107) (m := 40) (i := 38) (k := 38) (v := (r19 107 38)) zd_229_88 rfl (by decide) (by decide) (by decide) rfl]
      rw [zs_iconst (z := 1) zd_229_89 (by decide)]
      by_cases c20 : ¬ (r19 107 38) = 1
      · rw [if_pos c20] at H
        rw [zp_icmp_ne_t (x := (r19 107 38)) (y := 1) (t := 138) zd_229_90 rfl c20]
        exact zt_M_whole_138 (hk63 := ih) H
      · rw [if_neg c20] at H
        rw [zp_icmp_ne_f (x := (r19 107 38)) (y := 1) (t := 138) zd_229_90 rfl c20]
        rw [zs_aload_n (ls := [some (.ref 82), some (.int v1), some (.int v2), o3, some (.int v4), some (.int v5), o6, o7, o8, o9]) zd_229_93 rfl]
        rw [zs_iload_n (ls := [some (.ref 82), some (.int v1), some (.int v2), o3, some (.int v4), some (.int v5), o6, o7, o8, o9]) zd_229_94 rfl]
        obtain ⟨r49, hr49, H⟩ := Option.bind_eq_some_iff.mp H
        rw [zp_callVi (x := r49) (st := [.int v2, .ref 82]) (as := [.ref 82, .int v2]) (rest := []) (e := 1) zd_229_95 rfl (by decide +kernel) (by decide) rfl rfl (Nat.le_of_ble_eq_true rfl) (zx_rcb_ok rfl (show 82 < 119 by decide)) (Nat.le_of_ble_eq_true rfl) rfl (by decide) (zt_M_stateOf hr49)]
        rw [zs_iconst (z := 1) zd_229_98 (by decide)]
        by_cases c50 : ¬ r49 = 1
        · rw [if_pos c50] at H
          rw [zp_icmp_ne_t (x := r49) (y := 1) (t := 138) zd_229_99 rfl c50]
          exact zt_M_whole_138 (hk63 := ih) H
        · rw [if_neg c50] at H
          rw [zp_icmp_ne_f (x := r49) (y := 1) (t := 138) zd_229_99 rfl c50]
          rw [zs_aload_n (ls := [some (.ref 82), some (.int v1), some (.int v2), o3, some (.int v4), some (.int v5), o6, o7, o8, o9]) zd_229_102 rfl]
          rw [zs_getR (n := 119) (K := zx_pk (zK L) 119) (ρ := zR) (c := 12) (k := 32) (q := 82) (p := 97) zd_229_103 rfl rfl rfl (by decide) rfl]
          rw [zs_bipush (z := 24) zd_229_106 (by decide)]
          rw [zs_iload_n (ls := [some (.ref 82), some (.int v1), some (.int v2), o3, some (.int v4), some (.int v5), o6, o7, o8, o9]) zd_229_108 rfl]
          rw [zp_imul (x := 24) (y := v2) (z := (24 * v2)) zd_229_109 rfl]
          rw [zs_aload_n (ls := [some (.ref 82), some (.int v1), some (.int v2), o3, some (.int v4), some (.int v5), o6, o7, o8, o9]) zd_229_110 rfl]
          rw [zs_getR (n := 119) (K := zx_pk (zK L) 119) (ρ := zR) (c := 12) (k := 47) (q := 82) (p := 107) zd_229_111 rfl rfl rfl (by decide) rfl]
          rw [zs_aload_n (ls := [some (.ref 82), some (.int v1), some (.int v2), o3, some (.int v4), some (.int v5), o6, o7, o8, o9]) zd_229_114 rfl]
          rw [zs_iload_n (ls := [some (.ref 82), some (.int v1), some (.int v2), o3, some (.int v4), some (.int v5), o6, o7, o8, o9]) zd_229_115 rfl]
          obtain ⟨r51, hr51, H⟩ := Option.bind_eq_some_iff.mp H
          rw [zp_callVi (x := r51) (st := [.int v2, .ref 82, .ref 107, .int (24 * v2), .ref 97]) (as := [.ref 82, .int v2]) (rest := [.ref 107, .int (24 * v2), .ref 97]) (e := 0) zd_229_116 rfl (by decide +kernel) (by decide) rfl rfl (Nat.le_of_ble_eq_true rfl) (zx_rcb_ok rfl (show 82 < 119 by decide)) (Nat.le_of_ble_eq_true rfl) rfl (by decide) (zt_M_at hr51)]
          by_cases c52 : 0 ≤ r51 ∧ r51 < 40
          · rw [if_pos c52] at H
            rw [zp_iaload (n := 119) (K := zx_pk (zK L) 119) (σ := r19) (q := 107) (m := 40) (i := r51) (k := r51.toNatClampNeg) (v := (r19 107 r51.toNatClampNeg)) zd_229_119 rfl (by decide) (zJ_in c52 rfl) rfl rfl]
            rw [zp_iadd (x := (24 * v2)) (y := (r19 107 r51.toNatClampNeg)) (z := ((24 * v2) + (r19 107 r51.toNatClampNeg))) zd_229_120 rfl]
            by_cases c53 : 0 ≤ ((24 * v2) + (r19 107 r51.toNatClampNeg)) ∧ ((24 * v2) + (r19 107 r51.toNatClampNeg)) < 96
            · rw [if_pos c53] at H
              rw [zp_iaload (n := 119) (K := zx_pk (zK L) 119) (σ := r19) (q := 97) (m := 96) (i := ((24 * v2) + (r19 107 r51.toNatClampNeg))) (k := ((24 * v2) + (r19 107 r51.toNatClampNeg)).toNatClampNeg) (v := (r19 97 ((24 * v2) + (r19 107 r51.toNatClampNeg)).toNatClampNeg)) zd_229_121 rfl (by decide) (zJ_in c53 rfl) rfl rfl]
              rw [zs_iload_n (ls := [some (.ref 82), some (.int v1), some (.int v2), o3, some (.int v4), some (.int v5), o6, o7, o8, o9]) zd_229_122 rfl]
              by_cases c54 : ¬ (r19 97 ((24 * v2) + (r19 107 r51.toNatClampNeg)).toNatClampNeg) = v1
              · rw [if_pos c54] at H
                rw [zp_icmp_ne_t (x := (r19 97 ((24 * v2) + (r19 107 r51.toNatClampNeg)).toNatClampNeg)) (y := v1) (t := 138) zd_229_123 rfl c54]
                exact zt_M_whole_138 (hk63 := ih) H
              · rw [if_neg c54] at H
                rw [zp_icmp_ne_f (x := (r19 97 ((24 * v2) + (r19 107 r51.toNatClampNeg)).toNatClampNeg)) (y := v1) (t := 138) zd_229_123 rfl c54]
                rw [zs_aload_n (ls := [some (.ref 82), some (.int v1), some (.int v2), o3, some (.int v4), some (.int v5), o6, o7, o8, o9]) zd_229_126 rfl]
                rw [zs_iload_n (ls := [some (.ref 82), some (.int v1), some (.int v2), o3, some (.int v4), some (.int v5), o6, o7, o8, o9]) zd_229_127 rfl]
                obtain ⟨r55, hr55, H⟩ := Option.bind_eq_some_iff.mp H
                rw [zp_callVi (x := r55) (st := [.int v2, .ref 82]) (as := [.ref 82, .int v2]) (rest := []) (e := 2) zd_229_128 rfl (by decide +kernel) (by decide) rfl rfl (Nat.le_of_ble_eq_true rfl) (zx_rcb_ok rfl (show 82 < 119 by decide)) (Nat.le_of_ble_eq_true rfl) rfl (by decide) (zt_M_canStep hr55)]
                by_cases c56 : r55 = 0
                · rw [if_pos c56] at H
                  rw [zp_if_eq_t (x := r55) (t := 138) zd_229_131 rfl c56]
                  exact zt_M_whole_138 (hk63 := ih) H
                · rw [if_neg c56] at H
                  rw [zp_if_eq_f (x := r55) (t := 138) zd_229_131 rfl c56]
                  rw [zs_iconst (z := 1) zd_229_134 (by decide)]
                  rw [zs_goto (t := 139) zd_229_135 rfl]
                  exact zt_M_whole_139 (hk63 := ih) H
            · rw [if_neg c53] at H
              cases H
          · rw [if_neg c52] at H
            cases H
set_option maxRecDepth 20000 in
theorem zt_M_whole {a b L N : Nat} {σ : zS} {τ : zT} {x1 : Int32} {r : Int32 × zS} (H : zf_M_whole N σ x1 = some r) : zx_go 4 229 0 [some (.ref 82), some (.int x1), none, none, none, none, none, none, none, none] [] ((119, a, b), zx_pk (zK L) 119, σ, τ, zR) = some (some (.int r.1), ((119, a, b), zx_pk (zK L) 119, r.2, τ, zR)) := by
  unfold zf_M_whole at H
  rw [zs_aload_n (ls := [some (.ref 82), some (.int x1), none, none, none, none, none, none, none, none]) zd_229_0 rfl]
  rw [zs_iconst (z := 0) zd_229_1 (by decide)]
  rw [zs_putI (n := 119) (K := zx_pk (zK L) 119) (c := 12) (k := 0) (q := 82) (x := 0) zd_229_2 rfl rfl (by decide +kernel) rfl (by decide)]
  rw [zs_aload_n (ls := [some (.ref 82), some (.int x1), none, none, none, none, none, none, none, none]) zd_229_5 rfl]
  rw [zp_getZ (n := 119) (K := zx_pk (zK L) 119) (σ := (zx_up σ 82 0 0)) (c := 12) (k := 53) (q := 82) (v := (σ 82 53)) zd_229_6 rfl rfl rfl (by decide) (show ((zx_up σ 82 0 0) : zS) 82 53 = (σ 82 53) from ((zx_up_nj (by decide)).trans rfl))]
  by_cases c1 : ¬ (σ 82 53) = 0
  · rw [if_pos c1] at H
    rw [zp_if_ne_t (x := (σ 82 53)) (t := 15) zd_229_9 rfl c1]
    rw [zs_iload_n (ls := [some (.ref 82), some (.int x1), none, none, none, none, none, none, none, none]) zd_229_15 rfl]
    rw [zs_iconst (z := 0) zd_229_16 (by decide)]
    rw [zs_aload_n (ls := [some (.ref 82), some (.int x1), none, none, none, none, none, none, none, none]) zd_229_17 rfl]
    rw [zp_getI (n := 119) (K := zx_pk (zK L) 119) (σ := (zx_up σ 82 0 0)) (c := 12) (k := 25) (q := 82) (v := (σ 82 25)) zd_229_18 rfl rfl rfl (by decide) (show ((zx_up σ 82 0 0) : zS) 82 25 = (σ 82 25) from ((zx_up_nj (by decide)).trans rfl))]
    rw [zs_iconst (z := 1) zd_229_21 (by decide)]
    rw [zp_isub (x := (σ 82 25)) (y := 1) (z := ((σ 82 25) - 1)) zd_229_22 rfl]
    obtain ⟨r2, hr2, H⟩ := Option.bind_eq_some_iff.mp H
    rw [zp_callSi (x := r2) (st := [.int ((σ 82 25) - 1), .int 0, .int x1]) (as := [.int x1, .int 0, .int ((σ 82 25) - 1)]) (rest := []) (e := 0) zd_229_23 rfl (by decide +kernel) (by decide) rfl rfl (Nat.le_of_ble_eq_true rfl) rfl (Nat.le_of_ble_eq_true rfl) rfl (by decide) (zt_M_in hr2)]
    by_cases c3 : ¬ r2 = 0
    · rw [if_pos c3] at H
      rw [zp_if_ne_t (x := r2) (t := 32) zd_229_26 rfl c3]
      rw [zs_aload_n (ls := [some (.ref 82), some (.int x1), none, none, none, none, none, none, none, none]) zd_229_32 rfl]
      rw [zs_getR (n := 119) (K := zx_pk (zK L) 119) (ρ := zR) (c := 12) (k := 26) (q := 82) (p := 91) zd_229_33 rfl rfl rfl (by decide) rfl]
      rw [zs_iload_n (ls := [some (.ref 82), some (.int x1), none, none, none, none, none, none, none, none]) zd_229_36 rfl]
      by_cases c4 : 0 ≤ x1 ∧ x1 < 6
      · rw [if_pos c4] at H
        rw [zp_iaload (n := 119) (K := zx_pk (zK L) 119) (σ := (zx_up σ 82 0 0)) (q := 91) (m := 6) (i := x1) (k := x1.toNatClampNeg) (v := (σ 91 x1.toNatClampNeg)) zd_229_37 rfl (by decide) (zJ_in c4 rfl) rfl (show ((zx_up σ 82 0 0) : zS) 91 x1.toNatClampNeg = (σ 91 x1.toNatClampNeg) from ((zx_up_ne (by decide)).trans rfl))]
        rw [zs_istore_n (x := (σ 91 x1.toNatClampNeg)) (ls' := [some (.ref 82), some (.int x1), some (.int (σ 91 x1.toNatClampNeg)), none, none, none, none, none, none, none]) zd_229_38 (Nat.le_of_ble_eq_true rfl) rfl]
        rw [zs_aload_n (ls := [some (.ref 82), some (.int x1), some (.int (σ 91 x1.toNatClampNeg)), none, none, none, none, none, none, none]) zd_229_39 rfl]
        rw [zs_sipush (z := 4000) zd_229_40 (by decide)]
        obtain ⟨r5, hr5, H⟩ := Option.bind_eq_some_iff.mp H
        rw [zp_callVv (st := [.int 4000, .ref 82]) (as := [.ref 82, .int 4000]) (rest := []) (e := 0) zd_229_43 rfl (by decide +kernel) (by decide) rfl rfl (Nat.le_of_ble_eq_true rfl) (zx_rcb_ok rfl (show 82 < 119 by decide)) (Nat.le_of_ble_eq_true rfl) rfl (by decide) (zt_M_forget hr5)]
        rw [zs_aload_n (ls := [some (.ref 82), some (.int x1), some (.int (σ 91 x1.toNatClampNeg)), none, none, none, none, none, none, none]) zd_229_46 rfl]
        obtain ⟨r6, hr6, H⟩ := Option.bind_eq_some_iff.mp H
        rw [zp_callVv (st := [.ref 82]) (as := [.ref 82]) (rest := []) (e := 3) zd_229_47 rfl (by decide +kernel) (by decide) rfl rfl (Nat.le_of_ble_eq_true rfl) (zx_rcb_ok rfl (show 82 < 119 by decide)) (Nat.le_of_ble_eq_true rfl) rfl (by decide) (zt_M_firstState hr6)]
        rw [zs_aload_n (ls := [some (.ref 82), some (.int x1), some (.int (σ 91 x1.toNatClampNeg)), none, none, none, none, none, none, none]) zd_229_50 rfl]
        obtain ⟨r7, hr7, H⟩ := Option.bind_eq_some_iff.mp H
        rw [zp_callVi (x := r7.1) (st := [.ref 82]) (as := [.ref 82]) (rest := []) (e := 0) zd_229_51 rfl (by decide +kernel) (by decide) rfl rfl (Nat.le_of_ble_eq_true rfl) (zx_rcb_ok rfl (show 82 < 119 by decide)) (Nat.le_of_ble_eq_true rfl) rfl (by decide) (zt_M_put hr7)]
        rw [zs_istore_n (x := r7.1) (ls' := [some (.ref 82), some (.int x1), some (.int (σ 91 x1.toNatClampNeg)), some (.int r7.1), none, none, none, none, none, none]) zd_229_54 (Nat.le_of_ble_eq_true rfl) rfl]
        rw [zs_iconst (z := 0) zd_229_55 (by decide)]
        rw [zs_istore (x := 0) (ls' := [some (.ref 82), some (.int x1), some (.int (σ 91 x1.toNatClampNeg)), some (.int r7.1), some (.int 0), none, none, none, none, none]) zd_229_56 (Nat.le_of_ble_eq_true rfl) rfl]
        rw [zs_sipush (z := 4000) zd_229_58 (by decide)]
        rw [zs_istore (x := 4000) (ls' := [some (.ref 82), some (.int x1), some (.int (σ 91 x1.toNatClampNeg)), some (.int r7.1), some (.int 0), some (.int 4000), none, none, none, none]) zd_229_61 (Nat.le_of_ble_eq_true rfl) rfl]
        exact zt_M_whole_63  H
      · rw [if_neg c4] at H
        cases H
    · rw [if_neg c3] at H
      rw [zp_if_ne_f (x := r2) (t := 32) zd_229_26 rfl c3]
      rw [zs_bipush (z := (-102)) zd_229_29 (by decide)]
      have H := Option.some.inj H
      subst H
      exact zs_ireturn zd_229_31 (by decide +kernel)
  · rw [if_neg c1] at H
    rw [zp_if_ne_f (x := (σ 82 53)) (t := 15) zd_229_9 rfl c1]
    rw [zs_bipush (z := (-101)) zd_229_12 (by decide)]
    have H := Option.some.inj H
    subst H
    exact zs_ireturn zd_229_14 (by decide +kernel)
set_option maxRecDepth 20000 in
theorem zt_Numbers_clear_c9 {a b L : Nat} {σ : zS} {τ : zT} {r : zS} (H : zf_Numbers_clear_c9 σ = some r) : zx_go 0 158 0 [some (.ref 79)] [] ((119, a, b), zx_pk (zK L) 119, σ, τ, zR) = some (none, ((119, a, b), zx_pk (zK L) 119, r, τ, zR)) := by
  unfold zf_Numbers_clear_c9 at H
  rw [zs_aload_n (ls := [some (.ref 79)]) zd_158_0 rfl]
  rw [zs_iconst (z := 0) zd_158_1 (by decide)]
  rw [zs_putI (n := 119) (K := zx_pk (zK L) 119) (c := 4) (k := 1) (q := 79) (x := 0) zd_158_2 rfl rfl (by decide +kernel) rfl (by decide)]
  have H := Option.some.inj H
  subst H
  exact zs_return zd_158_5 (by decide +kernel)
set_option maxRecDepth 20000 in
theorem zt_Judge_canMeet {a b L : Nat} {σ : zS} {τ : zT} {x1 : Int32} {x2 : Int32} {x3 : Int32} {x4 : Int32} {r : Int32} (H : zf_Judge_canMeet σ x1 x2 x3 x4 = some r) : zx_go 0 239 0 [some (.ref 76), some (.int x1), some (.int x2), some (.int x3), some (.int x4)] [] ((119, a, b), zx_pk (zK L) 119, σ, τ, zR) = some (some (.int r), ((119, a, b), zx_pk (zK L) 119, σ, τ, zR)) := by
  unfold zf_Judge_canMeet at H
  rw [zs_iload_n (ls := [some (.ref 76), some (.int x1), some (.int x2), some (.int x3), some (.int x4)]) zd_239_0 rfl]
  by_cases c1 : x1 < 0
  · rw [if_pos c1] at H
    rw [zp_if_lt_t (x := x1) (t := 18) zd_239_1 rfl c1]
    rw [zs_iconst (z := 0) zd_239_18 (by decide)]
    have H := Option.some.inj H
    subst H
    exact zs_ireturn zd_239_19 (by decide +kernel)
  · rw [if_neg c1] at H
    rw [zp_if_lt_f (x := x1) (t := 18) zd_239_1 rfl c1]
    rw [zs_iload_n (ls := [some (.ref 76), some (.int x1), some (.int x2), some (.int x3), some (.int x4)]) zd_239_4 rfl]
    rw [zs_iconst (z := 4) zd_239_5 (by decide)]
    by_cases c2 : 4 ≤ x1
    · rw [if_pos c2] at H
      rw [zp_icmp_ge_t (x := x1) (y := 4) (t := 18) zd_239_6 rfl c2]
      rw [zs_iconst (z := 0) zd_239_18 (by decide)]
      have H := Option.some.inj H
      subst H
      exact zs_ireturn zd_239_19 (by decide +kernel)
    · rw [if_neg c2] at H
      rw [zp_icmp_ge_f (x := x1) (y := 4) (t := 18) zd_239_6 rfl c2]
      rw [zs_iload_n (ls := [some (.ref 76), some (.int x1), some (.int x2), some (.int x3), some (.int x4)]) zd_239_9 rfl]
      by_cases c3 : x3 < 0
      · rw [if_pos c3] at H
        rw [zp_if_lt_t (x := x3) (t := 18) zd_239_10 rfl c3]
        rw [zs_iconst (z := 0) zd_239_18 (by decide)]
        have H := Option.some.inj H
        subst H
        exact zs_ireturn zd_239_19 (by decide +kernel)
      · rw [if_neg c3] at H
        rw [zp_if_lt_f (x := x3) (t := 18) zd_239_10 rfl c3]
        rw [zs_iload_n (ls := [some (.ref 76), some (.int x1), some (.int x2), some (.int x3), some (.int x4)]) zd_239_13 rfl]
        rw [zs_iconst (z := 4) zd_239_14 (by decide)]
        by_cases c4 : x3 < 4
        · rw [if_pos c4] at H
          rw [zp_icmp_lt_t (x := x3) (y := 4) (t := 20) zd_239_15 rfl c4]
          rw [zs_aload_n (ls := [some (.ref 76), some (.int x1), some (.int x2), some (.int x3), some (.int x4)]) zd_239_20 rfl]
          rw [zs_getR (n := 119) (K := zx_pk (zK L) 119) (ρ := zR) (c := 1) (k := 1) (q := 76) (p := 77) zd_239_21 rfl rfl rfl (by decide) rfl]
          rw [zs_iload_n (ls := [some (.ref 76), some (.int x1), some (.int x2), some (.int x3), some (.int x4)]) zd_239_24 rfl]
          rw [zs_iconst (z := 4) zd_239_25 (by decide)]
          rw [zp_imul (x := x1) (y := 4) (z := (x1 * 4)) zd_239_26 rfl]
          rw [zs_iload_n (ls := [some (.ref 76), some (.int x1), some (.int x2), some (.int x3), some (.int x4)]) zd_239_27 rfl]
          rw [zp_iadd (x := (x1 * 4)) (y := x3) (z := ((x1 * 4) + x3)) zd_239_28 rfl]
          by_cases c5 : 0 ≤ ((x1 * 4) + x3) ∧ ((x1 * 4) + x3) < 16
          · rw [if_pos c5] at H
            rw [zp_iaload (n := 119) (K := zx_pk (zK L) 119) (σ := σ) (q := 77) (m := 16) (i := ((x1 * 4) + x3)) (k := ((x1 * 4) + x3).toNatClampNeg) (v := (σ 77 ((x1 * 4) + x3).toNatClampNeg)) zd_239_29 rfl (by decide) (zJ_in c5 rfl) rfl rfl]
            rw [zs_iload_n (ls := [some (.ref 76), some (.int x1), some (.int x2), some (.int x3), some (.int x4)]) zd_239_30 rfl]
            rw [zp_iushr (x := (σ 77 ((x1 * 4) + x3).toNatClampNeg)) (y := x2) (z := (zJ_ushr (σ 77 ((x1 * 4) + x3).toNatClampNeg) x2)) zd_239_31 rfl]
            rw [zs_aload_n (ls := [some (.ref 76), some (.int x1), some (.int x2), some (.int x3), some (.int x4)]) zd_239_32 rfl]
            rw [zs_getR (n := 119) (K := zx_pk (zK L) 119) (ρ := zR) (c := 1) (k := 1) (q := 76) (p := 77) zd_239_33 rfl rfl rfl (by decide) rfl]
            rw [zs_iload_n (ls := [some (.ref 76), some (.int x1), some (.int x2), some (.int x3), some (.int x4)]) zd_239_36 rfl]
            rw [zs_iconst (z := 4) zd_239_37 (by decide)]
            rw [zp_imul (x := x3) (y := 4) (z := (x3 * 4)) zd_239_38 rfl]
            rw [zs_iload_n (ls := [some (.ref 76), some (.int x1), some (.int x2), some (.int x3), some (.int x4)]) zd_239_39 rfl]
            rw [zp_iadd (x := (x3 * 4)) (y := x1) (z := ((x3 * 4) + x1)) zd_239_40 rfl]
            by_cases c6 : 0 ≤ ((x3 * 4) + x1) ∧ ((x3 * 4) + x1) < 16
            · rw [if_pos c6] at H
              rw [zp_iaload (n := 119) (K := zx_pk (zK L) 119) (σ := σ) (q := 77) (m := 16) (i := ((x3 * 4) + x1)) (k := ((x3 * 4) + x1).toNatClampNeg) (v := (σ 77 ((x3 * 4) + x1).toNatClampNeg)) zd_239_41 rfl (by decide) (zJ_in c6 rfl) rfl rfl]
              rw [zs_iload (ls := [some (.ref 76), some (.int x1), some (.int x2), some (.int x3), some (.int x4)]) zd_239_42 rfl]
              rw [zp_iushr (x := (σ 77 ((x3 * 4) + x1).toNatClampNeg)) (y := x4) (z := (zJ_ushr (σ 77 ((x3 * 4) + x1).toNatClampNeg) x4)) zd_239_44 rfl]
              rw [zp_iand (x := (zJ_ushr (σ 77 ((x1 * 4) + x3).toNatClampNeg) x2)) (y := (zJ_ushr (σ 77 ((x3 * 4) + x1).toNatClampNeg) x4)) (z := ((zJ_ushr (σ 77 ((x1 * 4) + x3).toNatClampNeg) x2) &&& (zJ_ushr (σ 77 ((x3 * 4) + x1).toNatClampNeg) x4))) zd_239_45 rfl]
              rw [zs_iconst (z := 1) zd_239_46 (by decide)]
              rw [zp_iand (x := ((zJ_ushr (σ 77 ((x1 * 4) + x3).toNatClampNeg) x2) &&& (zJ_ushr (σ 77 ((x3 * 4) + x1).toNatClampNeg) x4))) (y := 1) (z := (((zJ_ushr (σ 77 ((x1 * 4) + x3).toNatClampNeg) x2) &&& (zJ_ushr (σ 77 ((x3 * 4) + x1).toNatClampNeg) x4)) &&& 1)) zd_239_47 rfl]
              by_cases c7 : (((zJ_ushr (σ 77 ((x1 * 4) + x3).toNatClampNeg) x2) &&& (zJ_ushr (σ 77 ((x3 * 4) + x1).toNatClampNeg) x4)) &&& 1) = 0
              · rw [if_pos c7] at H
                rw [zp_if_eq_t (x := (((zJ_ushr (σ 77 ((x1 * 4) + x3).toNatClampNeg) x2) &&& (zJ_ushr (σ 77 ((x3 * 4) + x1).toNatClampNeg) x4)) &&& 1)) (t := 55) zd_239_48 rfl c7]
                rw [zs_iconst (z := 0) zd_239_55 (by decide)]
                have H := Option.some.inj H
                subst H
                exact zs_ireturn zd_239_56 (by decide +kernel)
              · rw [if_neg c7] at H
                rw [zp_if_eq_f (x := (((zJ_ushr (σ 77 ((x1 * 4) + x3).toNatClampNeg) x2) &&& (zJ_ushr (σ 77 ((x3 * 4) + x1).toNatClampNeg) x4)) &&& 1)) (t := 55) zd_239_48 rfl c7]
                rw [zs_iconst (z := 1) zd_239_51 (by decide)]
                rw [zs_goto (t := 56) zd_239_52 rfl]
                have H := Option.some.inj H
                subst H
                exact zs_ireturn zd_239_56 (by decide +kernel)
            · rw [if_neg c6] at H
              cases H
          · rw [if_neg c5] at H
            cases H
        · rw [if_neg c4] at H
          rw [zp_icmp_lt_f (x := x3) (y := 4) (t := 20) zd_239_15 rfl c4]
          rw [zs_iconst (z := 0) zd_239_18 (by decide)]
          have H := Option.some.inj H
          subst H
          exact zs_ireturn zd_239_19 (by decide +kernel)
set_option maxRecDepth 20000 in
theorem zt_Judge_isDoubtful {a b L : Nat} {σ : zS} {τ : zT} {x1 : Int32} {x2 : Int32} {x3 : Int32} {x4 : Int32} {r : Int32} (H : zf_Judge_isDoubtful σ x1 x2 x3 x4 = some r) : zx_go 1 238 0 [some (.ref 76), some (.int x1), some (.int x2), some (.int x3), some (.int x4), none, none] [] ((119, a, b), zx_pk (zK L) 119, σ, τ, zR) = some (some (.int r), ((119, a, b), zx_pk (zK L) 119, σ, τ, zR)) := by
  unfold zf_Judge_isDoubtful at H
  rw [zs_aload_n (ls := [some (.ref 76), some (.int x1), some (.int x2), some (.int x3), some (.int x4), none, none]) zd_238_0 rfl]
  rw [zs_getR (n := 119) (K := zx_pk (zK L) 119) (ρ := zR) (c := 1) (k := 0) (q := 76) (p := 4) zd_238_1 rfl rfl rfl (by decide) rfl]
  rw [zs_iload_n (ls := [some (.ref 76), some (.int x1), some (.int x2), some (.int x3), some (.int x4), none, none]) zd_238_4 rfl]
  rw [zs_iload_n (ls := [some (.ref 76), some (.int x1), some (.int x2), some (.int x3), some (.int x4), none, none]) zd_238_5 rfl]
  obtain ⟨r1, hr1, H⟩ := Option.bind_eq_some_iff.mp H
  rw [zp_callVi (x := r1) (st := [.int x2, .int x1, .ref 4]) (as := [.ref 4, .int x1, .int x2]) (rest := []) (e := 0) zd_238_6 rfl (by decide +kernel) (by decide) rfl rfl (Nat.le_of_ble_eq_true rfl) (zx_rcb_ok rfl (show 4 < 119 by decide)) (Nat.le_of_ble_eq_true rfl) rfl (by decide) (zt_Program_slotOf hr1)]
  rw [zs_istore (x := r1) (ls' := [some (.ref 76), some (.int x1), some (.int x2), some (.int x3), some (.int x4), some (.int r1), none]) zd_238_9 (Nat.le_of_ble_eq_true rfl) rfl]
  rw [zs_aload_n (ls := [some (.ref 76), some (.int x1), some (.int x2), some (.int x3), some (.int x4), some (.int r1), none]) zd_238_11 rfl]
  rw [zs_getR (n := 119) (K := zx_pk (zK L) 119) (ρ := zR) (c := 1) (k := 0) (q := 76) (p := 4) zd_238_12 rfl rfl rfl (by decide) rfl]
  rw [zs_iload_n (ls := [some (.ref 76), some (.int x1), some (.int x2), some (.int x3), some (.int x4), some (.int r1), none]) zd_238_15 rfl]
  rw [zs_iload (ls := [some (.ref 76), some (.int x1), some (.int x2), some (.int x3), some (.int x4), some (.int r1), none]) zd_238_16 rfl]
  obtain ⟨r2, hr2, H⟩ := Option.bind_eq_some_iff.mp H
  rw [zp_callVi (x := r2) (st := [.int x4, .int x3, .ref 4]) (as := [.ref 4, .int x3, .int x4]) (rest := []) (e := 0) zd_238_18 rfl (by decide +kernel) (by decide) rfl rfl (Nat.le_of_ble_eq_true rfl) (zx_rcb_ok rfl (show 4 < 119 by decide)) (Nat.le_of_ble_eq_true rfl) rfl (by decide) (zt_Program_slotOf hr2)]
  rw [zs_istore (x := r2) (ls' := [some (.ref 76), some (.int x1), some (.int x2), some (.int x3), some (.int x4), some (.int r1), some (.int r2)]) zd_238_21 (Nat.le_of_ble_eq_true rfl) rfl]
  rw [zs_aload_n (ls := [some (.ref 76), some (.int x1), some (.int x2), some (.int x3), some (.int x4), some (.int r1), some (.int r2)]) zd_238_23 rfl]
  rw [zs_getR (n := 119) (K := zx_pk (zK L) 119) (ρ := zR) (c := 1) (k := 0) (q := 76) (p := 4) zd_238_24 rfl rfl rfl (by decide) rfl]
  rw [zs_iload (ls := [some (.ref 76), some (.int x1), some (.int x2), some (.int x3), some (.int x4), some (.int r1), some (.int r2)]) zd_238_27 rfl]
  rw [zs_iload (ls := [some (.ref 76), some (.int x1), some (.int x2), some (.int x3), some (.int x4), some (.int r1), some (.int r2)]) zd_238_29 rfl]
  obtain ⟨r3, hr3, H⟩ := Option.bind_eq_some_iff.mp H
  rw [zp_callVi (x := r3) (st := [.int r2, .int r1, .ref 4]) (as := [.ref 4, .int r1, .int r2]) (rest := []) (e := 0) zd_238_31 rfl (by decide +kernel) (by decide) rfl rfl (Nat.le_of_ble_eq_true rfl) (zx_rcb_ok rfl (show 4 < 119 by decide)) (Nat.le_of_ble_eq_true rfl) rfl (by decide) (zt_Program_clash hr3)]
  by_cases c4 : r3 = 0
  · rw [if_pos c4] at H
    rw [zp_if_eq_t (x := r3) (t := 77) zd_238_34 rfl c4]
    rw [zs_iconst (z := 0) zd_238_77 (by decide)]
    have H := Option.some.inj H
    subst H
    exact zs_ireturn zd_238_78 (by decide +kernel)
  · rw [if_neg c4] at H
    rw [zp_if_eq_f (x := r3) (t := 77) zd_238_34 rfl c4]
    rw [zs_aload_n (ls := [some (.ref 76), some (.int x1), some (.int x2), some (.int x3), some (.int x4), some (.int r1), some (.int r2)]) zd_238_37 rfl]
    rw [zs_getR (n := 119) (K := zx_pk (zK L) 119) (ρ := zR) (c := 1) (k := 0) (q := 76) (p := 4) zd_238_38 rfl rfl rfl (by decide) rfl]
    rw [zs_getR (n := 119) (K := zx_pk (zK L) 119) (ρ := zR) (c := 6) (k := 13) (q := 4) (p := 11) zd_238_41 rfl rfl rfl (by decide) rfl]
    rw [zs_iload (ls := [some (.ref 76), some (.int x1), some (.int x2), some (.int x3), some (.int x4), some (.int r1), some (.int r2)]) zd_238_44 rfl]
    by_cases c5 : 0 ≤ r1 ∧ r1 < 97
    · rw [if_pos c5] at H
      rw [zp_iaload (n := 119) (K := zx_pk (zK L) 119) (σ := σ) (q := 11) (m := 97) (i := r1) (k := r1.toNatClampNeg) (v := (σ 11 r1.toNatClampNeg)) zd_238_46 rfl (by decide) (zJ_in c5 rfl) rfl rfl]
      rw [zs_aload_n (ls := [some (.ref 76), some (.int x1), some (.int x2), some (.int x3), some (.int x4), some (.int r1), some (.int r2)]) zd_238_47 rfl]
      rw [zs_getR (n := 119) (K := zx_pk (zK L) 119) (ρ := zR) (c := 1) (k := 0) (q := 76) (p := 4) zd_238_48 rfl rfl rfl (by decide) rfl]
      rw [zs_getR (n := 119) (K := zx_pk (zK L) 119) (ρ := zR) (c := 6) (k := 13) (q := 4) (p := 11) zd_238_51 rfl rfl rfl (by decide) rfl]
      rw [zs_iload (ls := [some (.ref 76), some (.int x1), some (.int x2), some (.int x3), some (.int x4), some (.int r1), some (.int r2)]) zd_238_54 rfl]
      by_cases c6 : 0 ≤ r2 ∧ r2 < 97
      · rw [if_pos c6] at H
        rw [zp_iaload (n := 119) (K := zx_pk (zK L) 119) (σ := σ) (q := 11) (m := 97) (i := r2) (k := r2.toNatClampNeg) (v := (σ 11 r2.toNatClampNeg)) zd_238_56 rfl (by decide) (zJ_in c6 rfl) rfl rfl]
        rw [zp_iand (x := (σ 11 r1.toNatClampNeg)) (y := (σ 11 r2.toNatClampNeg)) (z := ((σ 11 r1.toNatClampNeg) &&& (σ 11 r2.toNatClampNeg))) zd_238_57 rfl]
        by_cases c7 : ¬ ((σ 11 r1.toNatClampNeg) &&& (σ 11 r2.toNatClampNeg)) = 0
        · rw [if_pos c7] at H
          rw [zp_if_ne_t (x := ((σ 11 r1.toNatClampNeg) &&& (σ 11 r2.toNatClampNeg))) (t := 77) zd_238_58 rfl c7]
          rw [zs_iconst (z := 0) zd_238_77 (by decide)]
          have H := Option.some.inj H
          subst H
          exact zs_ireturn zd_238_78 (by decide +kernel)
        · rw [if_neg c7] at H
          rw [zp_if_ne_f (x := ((σ 11 r1.toNatClampNeg) &&& (σ 11 r2.toNatClampNeg))) (t := 77) zd_238_58 rfl c7]
          rw [zs_aload_n (ls := [some (.ref 76), some (.int x1), some (.int x2), some (.int x3), some (.int x4), some (.int r1), some (.int r2)]) zd_238_61 rfl]
          rw [zs_iload_n (ls := [some (.ref 76), some (.int x1), some (.int x2), some (.int x3), some (.int x4), some (.int r1), some (.int r2)]) zd_238_62 rfl]
          rw [zs_iload_n (ls := [some (.ref 76), some (.int x1), some (.int x2), some (.int x3), some (.int x4), some (.int r1), some (.int r2)]) zd_238_63 rfl]
          rw [zs_iload_n (ls := [some (.ref 76), some (.int x1), some (.int x2), some (.int x3), some (.int x4), some (.int r1), some (.int r2)]) zd_238_64 rfl]
          rw [zs_iload (ls := [some (.ref 76), some (.int x1), some (.int x2), some (.int x3), some (.int x4), some (.int r1), some (.int r2)]) zd_238_65 rfl]
          obtain ⟨r8, hr8, H⟩ := Option.bind_eq_some_iff.mp H
          rw [zp_callVi (x := r8) (st := [.int x4, .int x3, .int x2, .int x1, .ref 76]) (as := [.ref 76, .int x1, .int x2, .int x3, .int x4]) (rest := []) (e := 0) zd_238_67 rfl (by decide +kernel) (by decide) rfl rfl (Nat.le_of_ble_eq_true rfl) (zx_rcb_ok rfl (show 76 < 119 by decide)) (Nat.le_of_ble_eq_true rfl) rfl (by decide) (zt_Judge_canMeet hr8)]
          by_cases c9 : r8 = 0
          · rw [if_pos c9] at H
            rw [zp_if_eq_t (x := r8) (t := 77) zd_238_70 rfl c9]
            rw [zs_iconst (z := 0) zd_238_77 (by decide)]
            have H := Option.some.inj H
            subst H
            exact zs_ireturn zd_238_78 (by decide +kernel)
          · rw [if_neg c9] at H
            rw [zp_if_eq_f (x := r8) (t := 77) zd_238_70 rfl c9]
            rw [zs_iconst (z := 1) zd_238_73 (by decide)]
            rw [zs_goto (t := 78) zd_238_74 rfl]
            have H := Option.some.inj H
            subst H
            exact zs_ireturn zd_238_78 (by decide +kernel)
      · rw [if_neg c6] at H
        cases H
    · rw [if_neg c5] at H
      cases H
set_option maxRecDepth 20000 in
theorem zt_Numbers_add_c9 {a b L : Nat} {σ : zS} {τ : zT} {x1 : Int32} {r : zS} (H : zf_Numbers_add_c9 σ x1 = some r) : zx_go 0 160 0 [some (.ref 79), some (.int x1)] [] ((119, a, b), zx_pk (zK L) 119, σ, τ, zR) = some (none, ((119, a, b), zx_pk (zK L) 119, r, τ, zR)) := by
  unfold zf_Numbers_add_c9 at H
  rw [zs_aload_n (ls := [some (.ref 79), some (.int x1)]) zd_160_0 rfl]
  rw [zp_getI (n := 119) (K := zx_pk (zK L) 119) (σ := σ) (c := 4) (k := 1) (q := 79) (v := (σ 79 1)) zd_160_1 rfl rfl rfl (by decide) rfl]
  by_cases c1 : (σ 79 1) < 0
  · rw [if_pos c1] at H
    rw [zp_if_lt_t (x := (σ 79 1)) (t := 39) zd_160_4 rfl c1]
    have H := Option.some.inj H
    subst H
    exact zs_return zd_160_39 (by decide +kernel)
  · rw [if_neg c1] at H
    rw [zp_if_lt_f (x := (σ 79 1)) (t := 39) zd_160_4 rfl c1]
    rw [zs_aload_n (ls := [some (.ref 79), some (.int x1)]) zd_160_7 rfl]
    rw [zp_getI (n := 119) (K := zx_pk (zK L) 119) (σ := σ) (c := 4) (k := 1) (q := 79) (v := (σ 79 1)) zd_160_8 rfl rfl rfl (by decide) rfl]
    rw [zs_aload_n (ls := [some (.ref 79), some (.int x1)]) zd_160_11 rfl]
    rw [zs_getR (n := 119) (K := zx_pk (zK L) 119) (ρ := zR) (c := 4) (k := 0) (q := 79) (p := 80) zd_160_12 rfl rfl rfl (by decide) rfl]
    rw [zs_arraylength (n := 119) (K := zx_pk (zK L) 119) (q := 80) (m := 3456) (z := 3456) zd_160_15 rfl (by decide) (by decide)]
    by_cases c2 : 3456 ≤ (σ 79 1)
    · rw [if_pos c2] at H
      rw [zp_icmp_ge_t (x := (σ 79 1)) (y := 3456) (t := 39) zd_160_16 rfl c2]
      have H := Option.some.inj H
      subst H
      exact zs_return zd_160_39 (by decide +kernel)
    · rw [if_neg c2] at H
      rw [zp_icmp_ge_f (x := (σ 79 1)) (y := 3456) (t := 39) zd_160_16 rfl c2]
      rw [zs_aload_n (ls := [some (.ref 79), some (.int x1)]) zd_160_19 rfl]
      rw [zs_getR (n := 119) (K := zx_pk (zK L) 119) (ρ := zR) (c := 4) (k := 0) (q := 79) (p := 80) zd_160_20 rfl rfl rfl (by decide) rfl]
      rw [zs_aload_n (ls := [some (.ref 79), some (.int x1)]) zd_160_23 rfl]
      rw [zp_getI (n := 119) (K := zx_pk (zK L) 119) (σ := σ) (c := 4) (k := 1) (q := 79) (v := (σ 79 1)) zd_160_24 rfl rfl rfl (by decide) rfl]
      rw [zs_iload_n (ls := [some (.ref 79), some (.int x1)]) zd_160_27 rfl]
      by_cases c3 : 0 ≤ (σ 79 1) ∧ (σ 79 1) < 3456
      · rw [if_pos c3] at H
        rw [zp_iastore (n := 119) (K := zx_pk (zK L) 119) (q := 80) (m := 3456) (i := (σ 79 1)) (k := (σ 79 1).toNatClampNeg) (x := x1) (z := x1) zd_160_28 rfl ⟨by decide, by decide⟩ (zJ_in c3 rfl) rfl rfl]
        rw [zs_aload_n (ls := [some (.ref 79), some (.int x1)]) zd_160_29 rfl]
        rw [zs_dup (a := .ref 79) zd_160_30 rfl]
        rw [zp_getI (n := 119) (K := zx_pk (zK L) 119) (σ := (zx_up σ 80 (σ 79 1).toNatClampNeg x1)) (c := 4) (k := 1) (q := 79) (v := (σ 79 1)) zd_160_31 rfl rfl rfl (by decide) (show ((zx_up σ 80 (σ 79 1).toNatClampNeg x1) : zS) 79 1 = (σ 79 1) from ((zx_up_ne (by decide)).trans rfl))]
        rw [zs_iconst (z := 1) zd_160_34 (by decide)]
        rw [zp_iadd (x := (σ 79 1)) (y := 1) (z := ((σ 79 1) + 1)) zd_160_35 rfl]
        rw [zs_putI (n := 119) (K := zx_pk (zK L) 119) (c := 4) (k := 1) (q := 79) (x := ((σ 79 1) + 1)) zd_160_36 rfl rfl (by decide +kernel) rfl (by decide)]
        have H := Option.some.inj H
        subst H
        exact zs_return zd_160_39 (by decide +kernel)
      · rw [if_neg c3] at H
        cases H
set_option maxRecDepth 20000 in
theorem zt_Judge_listDoubts_66 {a b L N : Nat} {k27 : zS → Int32 → Int32 → Int32 → Option (zS)} (hk27 : ∀ {σ : zS} {τ : zT} {v1 : Int32} {v2 : Int32} {v3 : Int32} {r : zS}, k27 σ v1 v2 v3 = some r → zx_go 2 237 27 [some (.ref 76), some (.int v1), some (.int v2), some (.int v3)] [] ((119, a, b), zx_pk (zK L) 119, σ, τ, zR) = some (none, ((119, a, b), zx_pk (zK L) 119, r, τ, zR))) {σ : zS} {τ : zT} {v1 : Int32} {v2 : Int32} {v3 : Int32} {r : zS} (H : zb_Judge_listDoubts_66 k27 N σ v1 v2 v3 = some r) : zx_go 2 237 66 [some (.ref 76), some (.int v1), some (.int v2), some (.int v3)] [] ((119, a, b), zx_pk (zK L) 119, σ, τ, zR) = some (none, ((119, a, b), zx_pk (zK L) 119, r, τ, zR)) := by
  unfold zb_Judge_listDoubts_66 at H
  rw [zs_iinc (ls := [some (.ref 76), some (.int v1), some (.int v2), some (.int v3)]) (x := v3) (z := (v3 + 1)) (ls' := [some (.ref 76), some (.int v1), some (.int v2), some (.int (v3 + 1))]) zd_237_66 rfl rfl rfl]
  rw [zs_goto (t := 27) zd_237_69 rfl]
  exact hk27 H
set_option maxRecDepth 20000 in
theorem zt_Judge_listDoubts_27 {a b L N : Nat} {k9 : zS → Int32 → Option (zS)} (hk9 : ∀ {σ : zS} {τ : zT} {v1 : Int32} {o2 : Option Value} {o3 : Option Value} {r : zS}, k9 σ v1 = some r → zx_go 2 237 9 [some (.ref 76), some (.int v1), o2, o3] [] ((119, a, b), zx_pk (zK L) 119, σ, τ, zR) = some (none, ((119, a, b), zx_pk (zK L) 119, r, τ, zR))) : ∀ {n : Nat} {σ : zS} {τ : zT} {v1 : Int32} {v2 : Int32} {v3 : Int32} {r : zS}, zb_Judge_listDoubts_27 k9 N n σ v1 v2 v3 = some r → zx_go 2 237 27 [some (.ref 76), some (.int v1), some (.int v2), some (.int v3)] [] ((119, a, b), zx_pk (zK L) 119, σ, τ, zR) = some (none, ((119, a, b), zx_pk (zK L) 119, r, τ, zR)) := by
  intro n
  induction n with
  | zero =>
    intro _ _ _ _ _ _ H
    cases H
  | succ n ih =>
    intro σ τ v1 v2 v3 r H
    rw [zb_Judge_listDoubts_27] at H
    rw [zs_iload_n (ls := [some (.ref 76), some (.int v1), some (.int v2), some (.int v3)]) zd_237_27 rfl]
    rw [zs_bipush (z := 96) zd_237_28 (by decide)]
    by_cases c3 : 96 ≤ v3
    · rw [if_pos c3] at H
      rw [zp_icmp_ge_t (x := v3) (y := 96) (t := 72) zd_237_30 rfl c3]
      rw [zs_iinc (ls := [some (.ref 76), some (.int v1), some (.int v2), some (.int v3)]) (x := v1) (z := (v1 + 1)) (ls' := [some (.ref 76), some (.int (v1 + 1)), some (.int v2), some (.int v3)]) zd_237_72 rfl rfl rfl]
      rw [zs_goto (t := 9) zd_237_75 rfl]
      exact hk9 H
    · rw [if_neg c3] at H
      rw [zp_icmp_ge_f (x := v3) (y := 96) (t := 72) zd_237_30 rfl c3]
      rw [zs_aload_n (ls := [some (.ref 76), some (.int v1), some (.int v2), some (.int v3)]) zd_237_33 rfl]
      rw [zs_iload_n (ls := [some (.ref 76), some (.int v1), some (.int v2), some (.int v3)]) zd_237_34 rfl]
      rw [zs_iload_n (ls := [some (.ref 76), some (.int v1), some (.int v2), some (.int v3)]) zd_237_35 rfl]
      rw [zs_bipush (z := 24) zd_237_36 (by decide)]
      rw [zp_irem (x := v1) (y := 24) (z := (zJ_rem v1 24)) zd_237_38 (by decide) rfl]
      rw [zs_iload_n (ls := [some (.ref 76), some (.int v1), some (.int v2), some (.int v3)]) zd_237_39 rfl]
      rw [zs_bipush (z := 24) zd_237_40 (by decide)]
      rw [zp_idiv (x := v3) (y := 24) (z := (v3 / 24)) zd_237_42 (by decide) rfl]
      rw [zs_iload_n (ls := [some (.ref 76), some (.int v1), some (.int v2), some (.int v3)]) zd_237_43 rfl]
      rw [zs_bipush (z := 24) zd_237_44 (by decide)]
      rw [zp_irem (x := v3) (y := 24) (z := (zJ_rem v3 24)) zd_237_46 (by decide) rfl]
      obtain ⟨r4, hr4, H⟩ := Option.bind_eq_some_iff.mp H
      rw [zp_callVi (x := r4) (st := [.int (zJ_rem v3 24), .int (v3 / 24), .int (zJ_rem v1 24), .int v2, .ref 76]) (as := [.ref 76, .int v2, .int (zJ_rem v1 24), .int (v3 / 24), .int (zJ_rem v3 24)]) (rest := []) (e := 1) zd_237_47 rfl (by decide +kernel) (by decide) rfl rfl (Nat.le_of_ble_eq_true rfl) (zx_rcb_ok rfl (show 76 < 119 by decide)) (Nat.le_of_ble_eq_true rfl) rfl (by decide) (zt_Judge_isDoubtful hr4)]
      by_cases c5 : r4 = 0
      · rw [if_pos c5] at H
        rw [zp_if_eq_t (x := r4) (t := 66) zd_237_50 rfl c5]
        exact zt_Judge_listDoubts_66 (hk27 := ih) H
      · rw [if_neg c5] at H
        rw [zp_if_eq_f (x := r4) (t := 66) zd_237_50 rfl c5]
        rw [zs_aload_n (ls := [some (.ref 76), some (.int v1), some (.int v2), some (.int v3)]) zd_237_53 rfl]
        rw [zs_getR (n := 119) (K := zx_pk (zK L) 119) (ρ := zR) (c := 1) (k := 3) (q := 76) (p := 79) zd_237_54 rfl rfl rfl (by decide) rfl]
        rw [zs_iload_n (ls := [some (.ref 76), some (.int v1), some (.int v2), some (.int v3)]) zd_237_57 rfl]
        rw [zs_bipush (z := 96) zd_237_58 (by decide)]
        rw [zp_imul (x := v1) (y := 96) (z := (v1 * 96)) zd_237_60 rfl]
        rw [zs_iload_n (ls := [some (.ref 76), some (.int v1), some (.int v2), some (.int v3)]) zd_237_61 rfl]
        rw [zp_iadd (x := (v1 * 96)) (y := v3) (z := ((v1 * 96) + v3)) zd_237_62 rfl]
        obtain ⟨r6, hr6, H⟩ := Option.bind_eq_some_iff.mp H
        rw [zp_callVv (st := [.int ((v1 * 96) + v3), .ref 79]) (as := [.ref 79, .int ((v1 * 96) + v3)]) (rest := []) (e := 0) zd_237_63 rfl (by decide +kernel) (by decide) rfl rfl (Nat.le_of_ble_eq_true rfl) (zx_rcb_ok rfl (show 79 < 119 by decide)) (Nat.le_of_ble_eq_true rfl) rfl (by decide) (zt_Numbers_add_c9 hr6)]
        exact zt_Judge_listDoubts_66 (hk27 := ih) H
set_option maxRecDepth 20000 in
theorem zt_Judge_listDoubts_9 {a b L N : Nat} : ∀ {n : Nat} {σ : zS} {τ : zT} {v1 : Int32} {o2 : Option Value} {o3 : Option Value} {r : zS}, zb_Judge_listDoubts_9 N n σ v1 = some r → zx_go 2 237 9 [some (.ref 76), some (.int v1), o2, o3] [] ((119, a, b), zx_pk (zK L) 119, σ, τ, zR) = some (none, ((119, a, b), zx_pk (zK L) 119, r, τ, zR)) := by
  intro n
  induction n with
  | zero =>
    intro _ _ _ _ _ _ H
    cases H
  | succ n ih =>
    intro σ τ v1 o2 o3 r H
    rw [zb_Judge_listDoubts_9] at H
    rw [zs_iload_n (ls := [some (.ref 76), some (.int v1), o2, o3]) zd_237_9 rfl]
    rw [zs_bipush (z := 96) zd_237_10 (by decide)]
    by_cases c2 : 96 ≤ v1
    · rw [if_pos c2] at H
      rw [zp_icmp_ge_t (x := v1) (y := 96) (t := 78) zd_237_12 rfl c2]
      have H := Option.some.inj H
      subst H
      exact zs_return zd_237_78 (by decide +kernel)
    · rw [if_neg c2] at H
      rw [zp_icmp_ge_f (x := v1) (y := 96) (t := 78) zd_237_12 rfl c2]
      rw [zs_iload_n (ls := [some (.ref 76), some (.int v1), o2, o3]) zd_237_15 rfl]
      rw [zs_bipush (z := 24) zd_237_16 (by decide)]
      rw [zp_idiv (x := v1) (y := 24) (z := (v1 / 24)) zd_237_18 (by decide) rfl]
      rw [zs_istore_n (x := (v1 / 24)) (ls' := [some (.ref 76), some (.int v1), some (.int (v1 / 24)), o3]) zd_237_19 (Nat.le_of_ble_eq_true rfl) rfl]
      rw [zs_iload_n (ls := [some (.ref 76), some (.int v1), some (.int (v1 / 24)), o3]) zd_237_20 rfl]
      rw [zs_iconst (z := 1) zd_237_21 (by decide)]
      rw [zp_iadd (x := (v1 / 24)) (y := 1) (z := ((v1 / 24) + 1)) zd_237_22 rfl]
      rw [zs_bipush (z := 24) zd_237_23 (by decide)]
      rw [zp_imul (x := ((v1 / 24) + 1)) (y := 24) (z := (((v1 / 24) + 1) * 24)) zd_237_25 rfl]
      rw [zs_istore_n (x := (((v1 / 24) + 1) * 24)) (ls' := [some (.ref 76), some (.int v1), some (.int (v1 / 24)), some (.int (((v1 / 24) + 1) * 24))]) zd_237_26 (Nat.le_of_ble_eq_true rfl) rfl]
      exact zt_Judge_listDoubts_27 (hk9 := ih) H
set_option maxRecDepth 20000 in
theorem zt_Judge_listDoubts {a b L N : Nat} {σ : zS} {τ : zT} {r : zS} (H : zf_Judge_listDoubts N σ = some r) : zx_go 2 237 0 [some (.ref 76), none, none, none] [] ((119, a, b), zx_pk (zK L) 119, σ, τ, zR) = some (none, ((119, a, b), zx_pk (zK L) 119, r, τ, zR)) := by
  unfold zf_Judge_listDoubts at H
  rw [zs_aload_n (ls := [some (.ref 76), none, none, none]) zd_237_0 rfl]
  rw [zs_getR (n := 119) (K := zx_pk (zK L) 119) (ρ := zR) (c := 1) (k := 3) (q := 76) (p := 79) zd_237_1 rfl rfl rfl (by decide) rfl]
  obtain ⟨r1, hr1, H⟩ := Option.bind_eq_some_iff.mp H
  rw [zp_callVv (st := [.ref 79]) (as := [.ref 79]) (rest := []) (e := 0) zd_237_4 rfl (by decide +kernel) (by decide) rfl rfl (Nat.le_of_ble_eq_true rfl) (zx_rcb_ok rfl (show 79 < 119 by decide)) (Nat.le_of_ble_eq_true rfl) rfl (by decide) (zt_Numbers_clear_c9 hr1)]
  rw [zs_iconst (z := 0) zd_237_7 (by decide)]
  rw [zs_istore_n (x := 0) (ls' := [some (.ref 76), some (.int 0), none, none]) zd_237_8 (Nat.le_of_ble_eq_true rfl) rfl]
  exact zt_Judge_listDoubts_9  H
set_option maxRecDepth 20000 in
theorem zt_Judge_fitsRing_3 {a b L N : Nat} : ∀ {n : Nat} {σ : zS} {τ : zT} {v1 : Int32} {v2 : Int32} {v3 : Int32} {v4 : Int32} {o5 : Option Value} {r : Int32}, zb_Judge_fitsRing_3 N n σ v1 v2 v3 v4 = some r → zx_go 1 243 3 [some (.ref 76), some (.int v1), some (.int v2), some (.int v3), some (.int v4), o5] [] ((119, a, b), zx_pk (zK L) 119, σ, τ, zR) = some (some (.int r), ((119, a, b), zx_pk (zK L) 119, σ, τ, zR)) := by
  intro n
  induction n with
  | zero =>
    intro _ _ _ _ _ _ _ _ H
    cases H
  | succ n ih =>
    intro σ τ v1 v2 v3 v4 o5 r H
    rw [zb_Judge_fitsRing_3] at H
    rw [zs_iload (ls := [some (.ref 76), some (.int v1), some (.int v2), some (.int v3), some (.int v4), o5]) zd_243_3 rfl]
    rw [zs_iload_n (ls := [some (.ref 76), some (.int v1), some (.int v2), some (.int v3), some (.int v4), o5]) zd_243_5 rfl]
    by_cases c1 : v1 ≤ v4
    · rw [if_pos c1] at H
      rw [zp_icmp_ge_t (x := v4) (y := v1) (t := 62) zd_243_6 rfl c1]
      rw [zs_iconst (z := 1) zd_243_62 (by decide)]
      have H := Option.some.inj H
      subst H
      exact zs_ireturn zd_243_63 (by decide +kernel)
    · rw [if_neg c1] at H
      rw [zp_icmp_ge_f (x := v4) (y := v1) (t := 62) zd_243_6 rfl c1]
      rw [zs_iload (ls := [some (.ref 76), some (.int v1), some (.int v2), some (.int v3), some (.int v4), o5]) zd_243_9 rfl]
      rw [zs_iconst (z := 4) zd_243_11 (by decide)]
      by_cases c2 : 4 ≤ v4
      · rw [if_pos c2] at H
        rw [zp_icmp_ge_t (x := v4) (y := 4) (t := 62) zd_243_12 rfl c2]
        rw [zs_iconst (z := 1) zd_243_62 (by decide)]
        have H := Option.some.inj H
        subst H
        exact zs_ireturn zd_243_63 (by decide +kernel)
      · rw [if_neg c2] at H
        rw [zp_icmp_ge_f (x := v4) (y := 4) (t := 62) zd_243_12 rfl c2]
        rw [zs_aload_n (ls := [some (.ref 76), some (.int v1), some (.int v2), some (.int v3), some (.int v4), o5]) zd_243_15 rfl]
        rw [zs_getR (n := 119) (K := zx_pk (zK L) 119) (ρ := zR) (c := 1) (k := 2) (q := 76) (p := 78) zd_243_16 rfl rfl rfl (by decide) rfl]
        rw [zs_iload (ls := [some (.ref 76), some (.int v1), some (.int v2), some (.int v3), some (.int v4), o5]) zd_243_19 rfl]
        by_cases c3 : 0 ≤ v4 ∧ v4 < 4
        · rw [if_pos c3] at H
          rw [zp_iaload (n := 119) (K := zx_pk (zK L) 119) (σ := σ) (q := 78) (m := 4) (i := v4) (k := v4.toNatClampNeg) (v := (σ 78 v4.toNatClampNeg)) zd_243_21 rfl (by decide) (zJ_in c3 rfl) rfl rfl]
          rw [zs_bipush (z := 24) zd_243_22 (by decide)]
          rw [zp_idiv (x := (σ 78 v4.toNatClampNeg)) (y := 24) (z := ((σ 78 v4.toNatClampNeg) / 24)) zd_243_24 (by decide) rfl]
          rw [zs_istore (x := ((σ 78 v4.toNatClampNeg) / 24)) (ls' := [some (.ref 76), some (.int v1), some (.int v2), some (.int v3), some (.int v4), some (.int ((σ 78 v4.toNatClampNeg) / 24))]) zd_243_25 (Nat.le_of_ble_eq_true rfl) rfl]
          rw [zs_iload (ls := [some (.ref 76), some (.int v1), some (.int v2), some (.int v3), some (.int v4), some (.int ((σ 78 v4.toNatClampNeg) / 24))]) zd_243_27 rfl]
          rw [zs_iload_n (ls := [some (.ref 76), some (.int v1), some (.int v2), some (.int v3), some (.int v4), some (.int ((σ 78 v4.toNatClampNeg) / 24))]) zd_243_29 rfl]
          by_cases c4 : ((σ 78 v4.toNatClampNeg) / 24) = v2
          · rw [if_pos c4] at H
            rw [zp_icmp_eq_t (x := ((σ 78 v4.toNatClampNeg) / 24)) (y := v2) (t := 54) zd_243_30 rfl c4]
            rw [zs_iconst (z := 0) zd_243_54 (by decide)]
            have H := Option.some.inj H
            subst H
            exact zs_ireturn zd_243_55 (by decide +kernel)
          · rw [if_neg c4] at H
            rw [zp_icmp_eq_f (x := ((σ 78 v4.toNatClampNeg) / 24)) (y := v2) (t := 54) zd_243_30 rfl c4]
            rw [zs_aload_n (ls := [some (.ref 76), some (.int v1), some (.int v2), some (.int v3), some (.int v4), some (.int ((σ 78 v4.toNatClampNeg) / 24))]) zd_243_33 rfl]
            rw [zs_iload (ls := [some (.ref 76), some (.int v1), some (.int v2), some (.int v3), some (.int v4), some (.int ((σ 78 v4.toNatClampNeg) / 24))]) zd_243_34 rfl]
            rw [zs_aload_n (ls := [some (.ref 76), some (.int v1), some (.int v2), some (.int v3), some (.int v4), some (.int ((σ 78 v4.toNatClampNeg) / 24))]) zd_243_36 rfl]
            rw [zs_getR (n := 119) (K := zx_pk (zK L) 119) (ρ := zR) (c := 1) (k := 2) (q := 76) (p := 78) zd_243_37 rfl rfl rfl (by decide) rfl]
            rw [zs_iload (ls := [some (.ref 76), some (.int v1), some (.int v2), some (.int v3), some (.int v4), some (.int ((σ 78 v4.toNatClampNeg) / 24))]) zd_243_40 rfl]
            by_cases c5 : 0 ≤ v4 ∧ v4 < 4
            · rw [if_pos c5] at H
              rw [zp_iaload (n := 119) (K := zx_pk (zK L) 119) (σ := σ) (q := 78) (m := 4) (i := v4) (k := v4.toNatClampNeg) (v := (σ 78 v4.toNatClampNeg)) zd_243_42 rfl (by decide) (zJ_in c5 rfl) rfl rfl]
              rw [zs_bipush (z := 24) zd_243_43 (by decide)]
              rw [zp_irem (x := (σ 78 v4.toNatClampNeg)) (y := 24) (z := (zJ_rem (σ 78 v4.toNatClampNeg) 24)) zd_243_45 (by decide) rfl]
              rw [zs_iload_n (ls := [some (.ref 76), some (.int v1), some (.int v2), some (.int v3), some (.int v4), some (.int ((σ 78 v4.toNatClampNeg) / 24))]) zd_243_46 rfl]
              rw [zs_iload_n (ls := [some (.ref 76), some (.int v1), some (.int v2), some (.int v3), some (.int v4), some (.int ((σ 78 v4.toNatClampNeg) / 24))]) zd_243_47 rfl]
              obtain ⟨r6, hr6, H⟩ := Option.bind_eq_some_iff.mp H
              rw [zp_callVi (x := r6) (st := [.int v3, .int v2, .int (zJ_rem (σ 78 v4.toNatClampNeg) 24), .int ((σ 78 v4.toNatClampNeg) / 24), .ref 76]) (as := [.ref 76, .int ((σ 78 v4.toNatClampNeg) / 24), .int (zJ_rem (σ 78 v4.toNatClampNeg) 24), .int v2, .int v3]) (rest := []) (e := 0) zd_243_48 rfl (by decide +kernel) (by decide) rfl rfl (Nat.le_of_ble_eq_true rfl) (zx_rcb_ok rfl (show 76 < 119 by decide)) (Nat.le_of_ble_eq_true rfl) rfl (by decide) (zt_Judge_canMeet hr6)]
              by_cases c7 : ¬ r6 = 0
              · rw [if_pos c7] at H
                rw [zp_if_ne_t (x := r6) (t := 56) zd_243_51 rfl c7]
                rw [zs_iinc (ls := [some (.ref 76), some (.int v1), some (.int v2), some (.int v3), some (.int v4), some (.int ((σ 78 v4.toNatClampNeg) / 24))]) (x := v4) (z := (v4 + 1)) (ls' := [some (.ref 76), some (.int v1), some (.int v2), some (.int v3), some (.int (v4 + 1)), some (.int ((σ 78 v4.toNatClampNeg) / 24))]) zd_243_56 rfl rfl rfl]
                rw [zs_goto (t := 3) zd_243_59 rfl]
                exact ih H
              · rw [if_neg c7] at H
                rw [zp_if_ne_f (x := r6) (t := 56) zd_243_51 rfl c7]
                rw [zs_iconst (z := 0) zd_243_54 (by decide)]
                have H := Option.some.inj H
                subst H
                exact zs_ireturn zd_243_55 (by decide +kernel)
            · rw [if_neg c5] at H
              cases H
        · rw [if_neg c3] at H
          cases H
set_option maxRecDepth 20000 in
theorem zt_Judge_fitsRing {a b L N : Nat} {σ : zS} {τ : zT} {x1 : Int32} {x2 : Int32} {x3 : Int32} {r : Int32} (H : zf_Judge_fitsRing N σ x1 x2 x3 = some r) : zx_go 1 243 0 [some (.ref 76), some (.int x1), some (.int x2), some (.int x3), none, none] [] ((119, a, b), zx_pk (zK L) 119, σ, τ, zR) = some (some (.int r), ((119, a, b), zx_pk (zK L) 119, σ, τ, zR)) := by
  unfold zf_Judge_fitsRing at H
  rw [zs_iconst (z := 0) zd_243_0 (by decide)]
  rw [zs_istore (x := 0) (ls' := [some (.ref 76), some (.int x1), some (.int x2), some (.int x3), some (.int 0), none]) zd_243_1 (Nat.le_of_ble_eq_true rfl) rfl]
  exact zt_Judge_fitsRing_3  H
set_option maxRecDepth 20000 in
theorem zt_Judge_countRingsWith_116 {a b L N : Nat} {e : Nat} {kr : zS → Int32 → Int32 → Option (Int32 × zS)} (hB : 20 ≤ e) (hkr : ∀ {σ : zS} {τ : zT} {x1 x2 : Int32} {r : Int32 × zS}, kr σ x1 x2 = some r → zx_go e 241 0 [some (.ref 76), some (.int x1), some (.int x2), none, none, none, none] [] ((119, a, b), zx_pk (zK L) 119, σ, τ, zR) = some (some (.int r.1), ((119, a, b), zx_pk (zK L) 119, r.2, τ, zR))) {k6 : zS → Int32 → Int32 → Int32 → Int32 → Int32 → Int32 → Option (Int32 × zS)} (hk6 : ∀ {σ : zS} {τ : zT} {v1 : Int32} {v2 : Int32} {v3 : Int32} {v4 : Int32} {v5 : Int32} {v6 : Int32} {o7 : Option Value} {o8 : Option Value} {r : Int32 × zS}, k6 σ v1 v2 v3 v4 v5 v6 = some r → zx_go (e + 1) 242 6 [some (.ref 76), some (.int v1), some (.int v2), some (.int v3), some (.int v4), some (.int v5), some (.int v6), o7, o8] [] ((119, a, b), zx_pk (zK L) 119, σ, τ, zR) = some (some (.int r.1), ((119, a, b), zx_pk (zK L) 119, r.2, τ, zR))) {σ : zS} {τ : zT} {v1 : Int32} {v2 : Int32} {v3 : Int32} {v4 : Int32} {v5 : Int32} {v6 : Int32} {o7 : Option Value} {o8 : Option Value} {r : Int32 × zS} (H : zb_Judge_countRingsWith_116 kr k6 N σ v1 v2 v3 v4 v5 v6 = some r) : zx_go (e + 1) 242 116 [some (.ref 76), some (.int v1), some (.int v2), some (.int v3), some (.int v4), some (.int v5), some (.int v6), o7, o8] [] ((119, a, b), zx_pk (zK L) 119, σ, τ, zR) = some (some (.int r.1), ((119, a, b), zx_pk (zK L) 119, r.2, τ, zR)) := by
  unfold zb_Judge_countRingsWith_116 at H
  rw [zs_iinc (ls := [some (.ref 76), some (.int v1), some (.int v2), some (.int v3), some (.int v4), some (.int v5), some (.int v6), o7, o8]) (x := v6) (z := (v6 + 1)) (ls' := [some (.ref 76), some (.int v1), some (.int v2), some (.int v3), some (.int v4), some (.int v5), some (.int (v6 + 1)), o7, o8]) zd_242_116 rfl rfl rfl]
  rw [zs_goto (t := 6) zd_242_119 rfl]
  exact hk6 H
set_option maxRecDepth 20000 in
theorem zt_Judge_countRingsWith_6 {a b L N : Nat} {e : Nat} {kr : zS → Int32 → Int32 → Option (Int32 × zS)} (hB : 20 ≤ e) (hkr : ∀ {σ : zS} {τ : zT} {x1 x2 : Int32} {r : Int32 × zS}, kr σ x1 x2 = some r → zx_go e 241 0 [some (.ref 76), some (.int x1), some (.int x2), none, none, none, none] [] ((119, a, b), zx_pk (zK L) 119, σ, τ, zR) = some (some (.int r.1), ((119, a, b), zx_pk (zK L) 119, r.2, τ, zR))) : ∀ {n : Nat} {σ : zS} {τ : zT} {v1 : Int32} {v2 : Int32} {v3 : Int32} {v4 : Int32} {v5 : Int32} {v6 : Int32} {o7 : Option Value} {o8 : Option Value} {r : Int32 × zS}, zb_Judge_countRingsWith_6 kr N n σ v1 v2 v3 v4 v5 v6 = some r → zx_go (e + 1) 242 6 [some (.ref 76), some (.int v1), some (.int v2), some (.int v3), some (.int v4), some (.int v5), some (.int v6), o7, o8] [] ((119, a, b), zx_pk (zK L) 119, σ, τ, zR) = some (some (.int r.1), ((119, a, b), zx_pk (zK L) 119, r.2, τ, zR)) := by
  intro n
  induction n with
  | zero =>
    intro _ _ _ _ _ _ _ _ _ _ _ H
    cases H
  | succ n ih =>
    intro σ τ v1 v2 v3 v4 v5 v6 o7 o8 r H
    rw [zb_Judge_countRingsWith_6] at H
    rw [zs_iload (ls := [some (.ref 76), some (.int v1), some (.int v2), some (.int v3), some (.int v4), some (.int v5), some (.int v6), o7, o8]) zd_242_6 rfl]
    rw [zs_aload_n (ls := [some (.ref 76), some (.int v1), some (.int v2), some (.int v3), some (.int v4), some (.int v5), some (.int v6), o7, o8]) zd_242_8 rfl]
    rw [zs_getR (n := 119) (K := zx_pk (zK L) 119) (ρ := zR) (c := 1) (k := 0) (q := 76) (p := 4) zd_242_9 rfl rfl rfl (by decide) rfl]
    rw [zs_iload (ls := [some (.ref 76), some (.int v1), some (.int v2), some (.int v3), some (.int v4), some (.int v5), some (.int v6), o7, o8]) zd_242_12 rfl]
    obtain ⟨r1, hr1, H⟩ := Option.bind_eq_some_iff.mp H
    rw [zp_callVi (x := r1) (st := [.int v4, .ref 4, .int v6]) (as := [.ref 4, .int v4]) (rest := [.int v6]) (e := 0) zd_242_14 rfl (by decide +kernel) (by decide) rfl rfl (Nat.le_of_ble_eq_true rfl) (zx_rcb_ok rfl (show 4 < 119 by decide)) (Nat.le_of_ble_eq_true rfl) rfl (Nat.le_trans (by decide) hB) (zt_Program_lengthOf hr1)]
    by_cases c2 : r1 ≤ v6
    · rw [if_pos c2] at H
      rw [zp_icmp_ge_t (x := v6) (y := r1) (t := 122) zd_242_17 rfl c2]
      rw [zs_iload (ls := [some (.ref 76), some (.int v1), some (.int v2), some (.int v3), some (.int v4), some (.int v5), some (.int v6), o7, o8]) zd_242_122 rfl]
      have H := Option.some.inj H
      subst H
      exact zs_ireturn zd_242_124 rfl
    · rw [if_neg c2] at H
      rw [zp_icmp_ge_f (x := v6) (y := r1) (t := 122) zd_242_17 rfl c2]
      rw [zs_iload_n (ls := [some (.ref 76), some (.int v1), some (.int v2), some (.int v3), some (.int v4), some (.int v5), some (.int v6), o7, o8]) zd_242_20 rfl]
      rw [zs_iconst (z := 4) zd_242_21 (by decide)]
      by_cases c3 : 4 ≤ v1
      · rw [if_pos c3] at H
        rw [zp_icmp_ge_t (x := v1) (y := 4) (t := 122) zd_242_22 rfl c3]
        rw [zs_iload (ls := [some (.ref 76), some (.int v1), some (.int v2), some (.int v3), some (.int v4), some (.int v5), some (.int v6), o7, o8]) zd_242_122 rfl]
        have H := Option.some.inj H
        subst H
        exact zs_ireturn zd_242_124 rfl
      · rw [if_neg c3] at H
        rw [zp_icmp_ge_f (x := v1) (y := 4) (t := 122) zd_242_22 rfl c3]
        rw [zs_aload_n (ls := [some (.ref 76), some (.int v1), some (.int v2), some (.int v3), some (.int v4), some (.int v5), some (.int v6), o7, o8]) zd_242_25 rfl]
        rw [zs_getR (n := 119) (K := zx_pk (zK L) 119) (ρ := zR) (c := 1) (k := 0) (q := 76) (p := 4) zd_242_26 rfl rfl rfl (by decide) rfl]
        rw [zs_iload (ls := [some (.ref 76), some (.int v1), some (.int v2), some (.int v3), some (.int v4), some (.int v5), some (.int v6), o7, o8]) zd_242_29 rfl]
        rw [zs_iload (ls := [some (.ref 76), some (.int v1), some (.int v2), some (.int v3), some (.int v4), some (.int v5), some (.int v6), o7, o8]) zd_242_31 rfl]
        obtain ⟨r4, hr4, H⟩ := Option.bind_eq_some_iff.mp H
        rw [zp_callVi (x := r4) (st := [.int v6, .int v4, .ref 4]) (as := [.ref 4, .int v4, .int v6]) (rest := []) (e := 0) zd_242_33 rfl (by decide +kernel) (by decide) rfl rfl (Nat.le_of_ble_eq_true rfl) (zx_rcb_ok rfl (show 4 < 119 by decide)) (Nat.le_of_ble_eq_true rfl) rfl (Nat.le_trans (by decide) hB) (zt_Program_slotOf hr4)]
        rw [zs_istore (x := r4) (ls' := [some (.ref 76), some (.int v1), some (.int v2), some (.int v3), some (.int v4), some (.int v5), some (.int v6), some (.int r4), o8]) zd_242_36 (Nat.le_of_ble_eq_true rfl) rfl]
        rw [zs_aload_n (ls := [some (.ref 76), some (.int v1), some (.int v2), some (.int v3), some (.int v4), some (.int v5), some (.int v6), some (.int r4), o8]) zd_242_38 rfl]
        rw [zs_getR (n := 119) (K := zx_pk (zK L) 119) (ρ := zR) (c := 1) (k := 0) (q := 76) (p := 4) zd_242_39 rfl rfl rfl (by decide) rfl]
        rw [zs_getR (n := 119) (K := zx_pk (zK L) 119) (ρ := zR) (c := 6) (k := 13) (q := 4) (p := 11) zd_242_42 rfl rfl rfl (by decide) rfl]
        rw [zs_iload (ls := [some (.ref 76), some (.int v1), some (.int v2), some (.int v3), some (.int v4), some (.int v5), some (.int v6), some (.int r4), o8]) zd_242_45 rfl]
        by_cases c5 : 0 ≤ r4 ∧ r4 < 97
        · rw [if_pos c5] at H
          rw [zp_iaload (n := 119) (K := zx_pk (zK L) 119) (σ := σ) (q := 11) (m := 97) (i := r4) (k := r4.toNatClampNeg) (v := (σ 11 r4.toNatClampNeg)) zd_242_47 rfl (by decide) (zJ_in c5 rfl) rfl rfl]
          rw [zs_istore (x := (σ 11 r4.toNatClampNeg)) (ls' := [some (.ref 76), some (.int v1), some (.int v2), some (.int v3), some (.int v4), some (.int v5), some (.int v6), some (.int r4), some (.int (σ 11 r4.toNatClampNeg))]) zd_242_48 (Nat.le_of_ble_eq_true rfl) rfl]
          rw [zs_aload_n (ls := [some (.ref 76), some (.int v1), some (.int v2), some (.int v3), some (.int v4), some (.int v5), some (.int v6), some (.int r4), some (.int (σ 11 r4.toNatClampNeg))]) zd_242_50 rfl]
          rw [zs_getR (n := 119) (K := zx_pk (zK L) 119) (ρ := zR) (c := 1) (k := 0) (q := 76) (p := 4) zd_242_51 rfl rfl rfl (by decide) rfl]
          rw [zs_getR (n := 119) (K := zx_pk (zK L) 119) (ρ := zR) (c := 6) (k := 9) (q := 4) (p := 7) zd_242_54 rfl rfl rfl (by decide) rfl]
          rw [zs_iload (ls := [some (.ref 76), some (.int v1), some (.int v2), some (.int v3), some (.int v4), some (.int v5), some (.int v6), some (.int r4), some (.int (σ 11 r4.toNatClampNeg))]) zd_242_57 rfl]
          by_cases c6 : 0 ≤ r4 ∧ r4 < 97
          · rw [if_pos c6] at H
            rw [zp_iaload (n := 119) (K := zx_pk (zK L) 119) (σ := σ) (q := 7) (m := 97) (i := r4) (k := r4.toNatClampNeg) (v := (σ 7 r4.toNatClampNeg)) zd_242_59 rfl (by decide) (zJ_in c6 rfl) rfl rfl]
            rw [zs_iconst (z := 3) zd_242_60 (by decide)]
            by_cases c7 : ¬ (σ 7 r4.toNatClampNeg) = 3
            · rw [if_pos c7] at H
              rw [zp_icmp_ne_t (x := (σ 7 r4.toNatClampNeg)) (y := 3) (t := 116) zd_242_61 rfl c7]
              exact zt_Judge_countRingsWith_116 hB hkr (hk6 := ih) H
            · rw [if_neg c7] at H
              rw [zp_icmp_ne_f (x := (σ 7 r4.toNatClampNeg)) (y := 3) (t := 116) zd_242_61 rfl c7]
              rw [zs_iload (ls := [some (.ref 76), some (.int v1), some (.int v2), some (.int v3), some (.int v4), some (.int v5), some (.int v6), some (.int r4), some (.int (σ 11 r4.toNatClampNeg))]) zd_242_64 rfl]
              rw [zs_iload_n (ls := [some (.ref 76), some (.int v1), some (.int v2), some (.int v3), some (.int v4), some (.int v5), some (.int v6), some (.int r4), some (.int (σ 11 r4.toNatClampNeg))]) zd_242_66 rfl]
              rw [zp_iushr (x := (σ 11 r4.toNatClampNeg)) (y := v3) (z := (zJ_ushr (σ 11 r4.toNatClampNeg) v3)) zd_242_67 rfl]
              rw [zs_iconst (z := 1) zd_242_68 (by decide)]
              rw [zp_iand (x := (zJ_ushr (σ 11 r4.toNatClampNeg) v3)) (y := 1) (z := ((zJ_ushr (σ 11 r4.toNatClampNeg) v3) &&& 1)) zd_242_69 rfl]
              by_cases c8 : ((zJ_ushr (σ 11 r4.toNatClampNeg) v3) &&& 1) = 0
              · rw [if_pos c8] at H
                rw [zp_if_eq_t (x := ((zJ_ushr (σ 11 r4.toNatClampNeg) v3) &&& 1)) (t := 116) zd_242_70 rfl c8]
                exact zt_Judge_countRingsWith_116 hB hkr (hk6 := ih) H
              · rw [if_neg c8] at H
                rw [zp_if_eq_f (x := ((zJ_ushr (σ 11 r4.toNatClampNeg) v3) &&& 1)) (t := 116) zd_242_70 rfl c8]
                rw [zs_iload (ls := [some (.ref 76), some (.int v1), some (.int v2), some (.int v3), some (.int v4), some (.int v5), some (.int v6), some (.int r4), some (.int (σ 11 r4.toNatClampNeg))]) zd_242_73 rfl]
                rw [zs_iload_n (ls := [some (.ref 76), some (.int v1), some (.int v2), some (.int v3), some (.int v4), some (.int v5), some (.int v6), some (.int r4), some (.int (σ 11 r4.toNatClampNeg))]) zd_242_75 rfl]
                rw [zp_iand (x := (σ 11 r4.toNatClampNeg)) (y := v2) (z := ((σ 11 r4.toNatClampNeg) &&& v2)) zd_242_76 rfl]
                by_cases c9 : ¬ ((σ 11 r4.toNatClampNeg) &&& v2) = 0
                · rw [if_pos c9] at H
                  rw [zp_if_ne_t (x := ((σ 11 r4.toNatClampNeg) &&& v2)) (t := 116) zd_242_77 rfl c9]
                  exact zt_Judge_countRingsWith_116 hB hkr (hk6 := ih) H
                · rw [if_neg c9] at H
                  rw [zp_if_ne_f (x := ((σ 11 r4.toNatClampNeg) &&& v2)) (t := 116) zd_242_77 rfl c9]
                  rw [zs_aload_n (ls := [some (.ref 76), some (.int v1), some (.int v2), some (.int v3), some (.int v4), some (.int v5), some (.int v6), some (.int r4), some (.int (σ 11 r4.toNatClampNeg))]) zd_242_80 rfl]
                  rw [zs_iload_n (ls := [some (.ref 76), some (.int v1), some (.int v2), some (.int v3), some (.int v4), some (.int v5), some (.int v6), some (.int r4), some (.int (σ 11 r4.toNatClampNeg))]) zd_242_81 rfl]
                  rw [zs_iload (ls := [some (.ref 76), some (.int v1), some (.int v2), some (.int v3), some (.int v4), some (.int v5), some (.int v6), some (.int r4), some (.int (σ 11 r4.toNatClampNeg))]) zd_242_82 rfl]
                  rw [zs_iload (ls := [some (.ref 76), some (.int v1), some (.int v2), some (.int v3), some (.int v4), some (.int v5), some (.int v6), some (.int r4), some (.int (σ 11 r4.toNatClampNeg))]) zd_242_84 rfl]
                  obtain ⟨r10, hr10, H⟩ := Option.bind_eq_some_iff.mp H
                  rw [zp_callVi (x := r10) (st := [.int v6, .int v4, .int v1, .ref 76]) (as := [.ref 76, .int v1, .int v4, .int v6]) (rest := []) (e := 1) zd_242_86 rfl (by decide +kernel) (by decide) rfl rfl (Nat.le_of_ble_eq_true rfl) (zx_rcb_ok rfl (show 76 < 119 by decide)) (Nat.le_of_ble_eq_true rfl) rfl (Nat.le_trans (by decide) hB) (zt_Judge_fitsRing hr10)]
                  by_cases c11 : r10 = 0
                  · rw [if_pos c11] at H
                    rw [zp_if_eq_t (x := r10) (t := 116) zd_242_89 rfl c11]
                    exact zt_Judge_countRingsWith_116 hB hkr (hk6 := ih) H
                  · rw [if_neg c11] at H
                    rw [zp_if_eq_f (x := r10) (t := 116) zd_242_89 rfl c11]
                    rw [zs_aload_n (ls := [some (.ref 76), some (.int v1), some (.int v2), some (.int v3), some (.int v4), some (.int v5), some (.int v6), some (.int r4), some (.int (σ 11 r4.toNatClampNeg))]) zd_242_92 rfl]
                    rw [zs_getR (n := 119) (K := zx_pk (zK L) 119) (ρ := zR) (c := 1) (k := 2) (q := 76) (p := 78) zd_242_93 rfl rfl rfl (by decide) rfl]
                    rw [zs_iload_n (ls := [some (.ref 76), some (.int v1), some (.int v2), some (.int v3), some (.int v4), some (.int v5), some (.int v6), some (.int r4), some (.int (σ 11 r4.toNatClampNeg))]) zd_242_96 rfl]
                    rw [zs_iload (ls := [some (.ref 76), some (.int v1), some (.int v2), some (.int v3), some (.int v4), some (.int v5), some (.int v6), some (.int r4), some (.int (σ 11 r4.toNatClampNeg))]) zd_242_97 rfl]
                    by_cases c12 : 0 ≤ v1 ∧ v1 < 4
                    · rw [if_pos c12] at H
                      rw [zp_iastore (n := 119) (K := zx_pk (zK L) 119) (q := 78) (m := 4) (i := v1) (k := v1.toNatClampNeg) (x := r4) (z := r4) zd_242_99 rfl ⟨by decide, by decide⟩ (zJ_in c12 rfl) rfl rfl]
                      rw [zs_iload (ls := [some (.ref 76), some (.int v1), some (.int v2), some (.int v3), some (.int v4), some (.int v5), some (.int v6), some (.int r4), some (.int (σ 11 r4.toNatClampNeg))]) zd_242_100 rfl]
                      rw [zs_aload_n (ls := [some (.ref 76), some (.int v1), some (.int v2), some (.int v3), some (.int v4), some (.int v5), some (.int v6), some (.int r4), some (.int (σ 11 r4.toNatClampNeg))]) zd_242_102 rfl]
                      rw [zs_iload_n (ls := [some (.ref 76), some (.int v1), some (.int v2), some (.int v3), some (.int v4), some (.int v5), some (.int v6), some (.int r4), some (.int (σ 11 r4.toNatClampNeg))]) zd_242_103 rfl]
                      rw [zs_iconst (z := 1) zd_242_104 (by decide)]
                      rw [zp_iadd (x := v1) (y := 1) (z := (v1 + 1)) zd_242_105 rfl]
                      rw [zs_iload_n (ls := [some (.ref 76), some (.int v1), some (.int v2), some (.int v3), some (.int v4), some (.int v5), some (.int v6), some (.int r4), some (.int (σ 11 r4.toNatClampNeg))]) zd_242_106 rfl]
                      rw [zs_iload (ls := [some (.ref 76), some (.int v1), some (.int v2), some (.int v3), some (.int v4), some (.int v5), some (.int v6), some (.int r4), some (.int (σ 11 r4.toNatClampNeg))]) zd_242_107 rfl]
                      rw [zp_ior (x := v2) (y := (σ 11 r4.toNatClampNeg)) (z := (v2 ||| (σ 11 r4.toNatClampNeg))) zd_242_109 rfl]
                      obtain ⟨r13, hr13, H⟩ := Option.bind_eq_some_iff.mp H
                      rw [zp_callVi (x := r13.1) (st := [.int (v2 ||| (σ 11 r4.toNatClampNeg)), .int (v1 + 1), .ref 76, .int v5]) (as := [.ref 76, .int (v1 + 1), .int (v2 ||| (σ 11 r4.toNatClampNeg))]) (rest := [.int v5]) (e := e) zd_242_110 rfl (by decide +kernel) (by decide) rfl rfl (Nat.le_of_ble_eq_true rfl) (zx_rcb_ok rfl (show 76 < 119 by decide)) (Nat.le_of_ble_eq_true rfl) rfl (Nat.le_refl _) (hkr hr13)]
                      rw [zp_iadd (x := v5) (y := r13.1) (z := (v5 + r13.1)) zd_242_113 rfl]
                      rw [zs_istore (x := (v5 + r13.1)) (ls' := [some (.ref 76), some (.int v1), some (.int v2), some (.int v3), some (.int v4), some (.int (v5 + r13.1)), some (.int v6), some (.int r4), some (.int (σ 11 r4.toNatClampNeg))]) zd_242_114 (Nat.le_of_ble_eq_true rfl) rfl]
                      exact zt_Judge_countRingsWith_116 hB hkr (hk6 := ih) H
                    · rw [if_neg c12] at H
                      cases H
          · rw [if_neg c6] at H
            cases H
        · rw [if_neg c5] at H
          cases H
set_option maxRecDepth 20000 in
theorem zt_Judge_countRingsWith {a b L N : Nat} {e : Nat} {kr : zS → Int32 → Int32 → Option (Int32 × zS)} (hB : 20 ≤ e) (hkr : ∀ {σ : zS} {τ : zT} {x1 x2 : Int32} {r : Int32 × zS}, kr σ x1 x2 = some r → zx_go e 241 0 [some (.ref 76), some (.int x1), some (.int x2), none, none, none, none] [] ((119, a, b), zx_pk (zK L) 119, σ, τ, zR) = some (some (.int r.1), ((119, a, b), zx_pk (zK L) 119, r.2, τ, zR))) {σ : zS} {τ : zT} {x1 : Int32} {x2 : Int32} {x3 : Int32} {x4 : Int32} {r : Int32 × zS} (H : zf_Judge_countRingsWith kr N σ x1 x2 x3 x4 = some r) : zx_go (e + 1) 242 0 [some (.ref 76), some (.int x1), some (.int x2), some (.int x3), some (.int x4), none, none, none, none] [] ((119, a, b), zx_pk (zK L) 119, σ, τ, zR) = some (some (.int r.1), ((119, a, b), zx_pk (zK L) 119, r.2, τ, zR)) := by
  unfold zf_Judge_countRingsWith at H
  rw [zs_iconst (z := 0) zd_242_0 (by decide)]
  rw [zs_istore (x := 0) (ls' := [some (.ref 76), some (.int x1), some (.int x2), some (.int x3), some (.int x4), some (.int 0), none, none, none]) zd_242_1 (Nat.le_of_ble_eq_true rfl) rfl]
  rw [zs_iconst (z := 0) zd_242_3 (by decide)]
  rw [zs_istore (x := 0) (ls' := [some (.ref 76), some (.int x1), some (.int x2), some (.int x3), some (.int x4), some (.int 0), some (.int 0), none, none]) zd_242_4 (Nat.le_of_ble_eq_true rfl) rfl]
  exact zt_Judge_countRingsWith_6 hB hkr  H
set_option maxRecDepth 20000 in
theorem zt_Judge_countRingsFrom_69 {a b L N : Nat} {e : Nat} {kr : zS → Int32 → Int32 → Option (Int32 × zS)} (hB : 20 ≤ e) (hkr : ∀ {σ : zS} {τ : zT} {x1 x2 : Int32} {r : Int32 × zS}, kr σ x1 x2 = some r → zx_go e 241 0 [some (.ref 76), some (.int x1), some (.int x2), none, none, none, none] [] ((119, a, b), zx_pk (zK L) 119, σ, τ, zR) = some (some (.int r.1), ((119, a, b), zx_pk (zK L) 119, r.2, τ, zR))) : ∀ {n : Nat} {σ : zS} {τ : zT} {v1 : Int32} {v2 : Int32} {v4 : Int32} {v5 : Int32} {v6 : Int32} {o3 : Option Value} {r : Int32 × zS}, zb_Judge_countRingsFrom_69 kr N n σ v1 v2 v4 v5 v6 = some r → zx_go (e + 1 + 1) 241 69 [some (.ref 76), some (.int v1), some (.int v2), o3, some (.int v4), some (.int v5), some (.int v6)] [] ((119, a, b), zx_pk (zK L) 119, σ, τ, zR) = some (some (.int r.1), ((119, a, b), zx_pk (zK L) 119, r.2, τ, zR)) := by
  intro n
  induction n with
  | zero =>
    intro _ _ _ _ _ _ _ _ _ H
    cases H
  | succ n ih =>
    intro σ τ v1 v2 v4 v5 v6 o3 r H
    rw [zb_Judge_countRingsFrom_69] at H
    rw [zs_iload (ls := [some (.ref 76), some (.int v1), some (.int v2), o3, some (.int v4), some (.int v5), some (.int v6)]) zd_241_69 rfl]
    rw [zs_aload_n (ls := [some (.ref 76), some (.int v1), some (.int v2), o3, some (.int v4), some (.int v5), some (.int v6)]) zd_241_71 rfl]
    rw [zs_getR (n := 119) (K := zx_pk (zK L) 119) (ρ := zR) (c := 1) (k := 0) (q := 76) (p := 4) zd_241_72 rfl rfl rfl (by decide) rfl]
    rw [zp_getI (n := 119) (K := zx_pk (zK L) 119) (σ := σ) (c := 6) (k := 2) (q := 4) (v := (σ 4 2)) zd_241_75 rfl rfl rfl (by decide) rfl]
    by_cases c6 : (σ 4 2) ≤ v6
    · rw [if_pos c6] at H
      rw [zp_icmp_ge_t (x := v6) (y := (σ 4 2)) (t := 102) zd_241_78 rfl c6]
      rw [zs_iload (ls := [some (.ref 76), some (.int v1), some (.int v2), o3, some (.int v4), some (.int v5), some (.int v6)]) zd_241_102 rfl]
      have H := Option.some.inj H
      subst H
      exact zs_ireturn zd_241_104 rfl
    · rw [if_neg c6] at H
      rw [zp_icmp_ge_f (x := v6) (y := (σ 4 2)) (t := 102) zd_241_78 rfl c6]
      rw [zs_iload (ls := [some (.ref 76), some (.int v1), some (.int v2), o3, some (.int v4), some (.int v5), some (.int v6)]) zd_241_81 rfl]
      rw [zs_aload_n (ls := [some (.ref 76), some (.int v1), some (.int v2), o3, some (.int v4), some (.int v5), some (.int v6)]) zd_241_83 rfl]
      rw [zs_iload_n (ls := [some (.ref 76), some (.int v1), some (.int v2), o3, some (.int v4), some (.int v5), some (.int v6)]) zd_241_84 rfl]
      rw [zs_iload_n (ls := [some (.ref 76), some (.int v1), some (.int v2), o3, some (.int v4), some (.int v5), some (.int v6)]) zd_241_85 rfl]
      rw [zs_iload (ls := [some (.ref 76), some (.int v1), some (.int v2), o3, some (.int v4), some (.int v5), some (.int v6)]) zd_241_86 rfl]
      rw [zs_iload (ls := [some (.ref 76), some (.int v1), some (.int v2), o3, some (.int v4), some (.int v5), some (.int v6)]) zd_241_88 rfl]
      obtain ⟨r7, hr7, H⟩ := Option.bind_eq_some_iff.mp H
      rw [zp_callVi (x := r7.1) (st := [.int v6, .int v4, .int v2, .int v1, .ref 76, .int v5]) (as := [.ref 76, .int v1, .int v2, .int v4, .int v6]) (rest := [.int v5]) (e := (e + 1)) zd_241_90 rfl (by decide +kernel) (by decide) rfl rfl (Nat.le_of_ble_eq_true rfl) (zx_rcb_ok rfl (show 76 < 119 by decide)) (Nat.le_of_ble_eq_true rfl) rfl (Nat.le_refl _) (zt_Judge_countRingsWith hB hkr hr7)]
      rw [zp_iadd (x := v5) (y := r7.1) (z := (v5 + r7.1)) zd_241_93 rfl]
      rw [zs_istore (x := (v5 + r7.1)) (ls' := [some (.ref 76), some (.int v1), some (.int v2), o3, some (.int v4), some (.int (v5 + r7.1)), some (.int v6)]) zd_241_94 (Nat.le_of_ble_eq_true rfl) rfl]
      rw [zs_iinc (ls := [some (.ref 76), some (.int v1), some (.int v2), o3, some (.int v4), some (.int (v5 + r7.1)), some (.int v6)]) (x := v6) (z := (v6 + 1)) (ls' := [some (.ref 76), some (.int v1), some (.int v2), o3, some (.int v4), some (.int (v5 + r7.1)), some (.int (v6 + 1))]) zd_241_96 rfl rfl rfl]
      rw [zs_goto (t := 69) zd_241_99 rfl]
      exact ih H
set_option maxRecDepth 20000 in
theorem zt_Judge_countRingsFrom_59 {a b L N : Nat} {e : Nat} {kr : zS → Int32 → Int32 → Option (Int32 × zS)} (hB : 20 ≤ e) (hkr : ∀ {σ : zS} {τ : zT} {x1 x2 : Int32} {r : Int32 × zS}, kr σ x1 x2 = some r → zx_go e 241 0 [some (.ref 76), some (.int x1), some (.int x2), none, none, none, none] [] ((119, a, b), zx_pk (zK L) 119, σ, τ, zR) = some (some (.int r.1), ((119, a, b), zx_pk (zK L) 119, r.2, τ, zR))) {σ : zS} {τ : zT} {v1 : Int32} {v2 : Int32} {v3 : Int32} {v4 : Int32} {s0 : Int32} {o5 : Option Value} {o6 : Option Value} {r : Int32 × zS} (H : zb_Judge_countRingsFrom_59 kr N σ v1 v2 v3 v4 s0 = some r) : zx_go (e + 1 + 1) 241 59 [some (.ref 76), some (.int v1), some (.int v2), some (.int v3), some (.int v4), o5, o6] [.int s0] ((119, a, b), zx_pk (zK L) 119, σ, τ, zR) = some (some (.int r.1), ((119, a, b), zx_pk (zK L) 119, r.2, τ, zR)) := by
  unfold zb_Judge_countRingsFrom_59 at H
  rw [zs_istore (x := s0) (ls' := [some (.ref 76), some (.int v1), some (.int v2), some (.int v3), some (.int v4), some (.int s0), o6]) zd_241_59 (Nat.le_of_ble_eq_true rfl) rfl]
  rw [zs_iload_n (ls := [some (.ref 76), some (.int v1), some (.int v2), some (.int v3), some (.int v4), some (.int s0), o6]) zd_241_61 rfl]
  rw [zs_bipush (z := 24) zd_241_62 (by decide)]
  rw [zp_idiv (x := v3) (y := 24) (z := (v3 / 24)) zd_241_64 (by decide) rfl]
  rw [zs_iconst (z := 1) zd_241_65 (by decide)]
  rw [zp_iadd (x := (v3 / 24)) (y := 1) (z := ((v3 / 24) + 1)) zd_241_66 rfl]
  rw [zs_istore (x := ((v3 / 24) + 1)) (ls' := [some (.ref 76), some (.int v1), some (.int v2), some (.int v3), some (.int v4), some (.int s0), some (.int ((v3 / 24) + 1))]) zd_241_67 (Nat.le_of_ble_eq_true rfl) rfl]
  exact zt_Judge_countRingsFrom_69 hB hkr  H
set_option maxRecDepth 20000 in
theorem zt_Judge_countRingsFromB {a b L N : Nat} {e : Nat} {kr : zS → Int32 → Int32 → Option (Int32 × zS)} (hB : 20 ≤ e) (hkr : ∀ {σ : zS} {τ : zT} {x1 x2 : Int32} {r : Int32 × zS}, kr σ x1 x2 = some r → zx_go e 241 0 [some (.ref 76), some (.int x1), some (.int x2), none, none, none, none] [] ((119, a, b), zx_pk (zK L) 119, σ, τ, zR) = some (some (.int r.1), ((119, a, b), zx_pk (zK L) 119, r.2, τ, zR))) {σ : zS} {τ : zT} {x1 : Int32} {x2 : Int32} {r : Int32 × zS} (H : zf_Judge_countRingsFromB kr N σ x1 x2 = some r) : zx_go (e + 1 + 1) 241 0 [some (.ref 76), some (.int x1), some (.int x2), none, none, none, none] [] ((119, a, b), zx_pk (zK L) 119, σ, τ, zR) = some (some (.int r.1), ((119, a, b), zx_pk (zK L) 119, r.2, τ, zR)) := by
  unfold zf_Judge_countRingsFromB at H
  rw [zs_iload_n (ls := [some (.ref 76), some (.int x1), some (.int x2), none, none, none, none]) zd_241_0 rfl]
  by_cases c1 : x1 ≤ 0
  · rw [if_pos c1] at H
    rw [zp_if_le_t (x := x1) (t := 9) zd_241_1 rfl c1]
    rw [zs_iconst (z := 0) zd_241_9 (by decide)]
    have H := Option.some.inj H
    subst H
    exact zs_ireturn zd_241_10 (by decide +kernel)
  · rw [if_neg c1] at H
    rw [zp_if_le_f (x := x1) (t := 9) zd_241_1 rfl c1]
    rw [zs_iload_n (ls := [some (.ref 76), some (.int x1), some (.int x2), none, none, none, none]) zd_241_4 rfl]
    rw [zs_iconst (z := 4) zd_241_5 (by decide)]
    by_cases c2 : x1 ≤ 4
    · rw [if_pos c2] at H
      rw [zp_icmp_le_t (x := x1) (y := 4) (t := 11) zd_241_6 rfl c2]
      rw [zs_aload_n (ls := [some (.ref 76), some (.int x1), some (.int x2), none, none, none, none]) zd_241_11 rfl]
      rw [zs_getR (n := 119) (K := zx_pk (zK L) 119) (ρ := zR) (c := 1) (k := 2) (q := 76) (p := 78) zd_241_12 rfl rfl rfl (by decide) rfl]
      rw [zs_iconst (z := 0) zd_241_15 (by decide)]
      rw [zp_iaload (n := 119) (K := zx_pk (zK L) 119) (σ := σ) (q := 78) (m := 4) (i := 0) (k := 0) (v := (σ 78 0)) zd_241_16 rfl (by decide) (by decide) (by decide) rfl]
      rw [zs_istore_n (x := (σ 78 0)) (ls' := [some (.ref 76), some (.int x1), some (.int x2), some (.int (σ 78 0)), none, none, none]) zd_241_17 (Nat.le_of_ble_eq_true rfl) rfl]
      rw [zs_aload_n (ls := [some (.ref 76), some (.int x1), some (.int x2), some (.int (σ 78 0)), none, none, none]) zd_241_18 rfl]
      rw [zs_getR (n := 119) (K := zx_pk (zK L) 119) (ρ := zR) (c := 1) (k := 0) (q := 76) (p := 4) zd_241_19 rfl rfl rfl (by decide) rfl]
      rw [zs_getR (n := 119) (K := zx_pk (zK L) 119) (ρ := zR) (c := 6) (k := 10) (q := 4) (p := 8) zd_241_22 rfl rfl rfl (by decide) rfl]
      rw [zs_aload_n (ls := [some (.ref 76), some (.int x1), some (.int x2), some (.int (σ 78 0)), none, none, none]) zd_241_25 rfl]
      rw [zs_getR (n := 119) (K := zx_pk (zK L) 119) (ρ := zR) (c := 1) (k := 2) (q := 76) (p := 78) zd_241_26 rfl rfl rfl (by decide) rfl]
      rw [zs_iload_n (ls := [some (.ref 76), some (.int x1), some (.int x2), some (.int (σ 78 0)), none, none, none]) zd_241_29 rfl]
      rw [zs_iconst (z := 1) zd_241_30 (by decide)]
      rw [zp_isub (x := x1) (y := 1) (z := (x1 - 1)) zd_241_31 rfl]
      by_cases c3 : 0 ≤ (x1 - 1) ∧ (x1 - 1) < 4
      · rw [if_pos c3] at H
        rw [zp_iaload (n := 119) (K := zx_pk (zK L) 119) (σ := σ) (q := 78) (m := 4) (i := (x1 - 1)) (k := (x1 - 1).toNatClampNeg) (v := (σ 78 (x1 - 1).toNatClampNeg)) zd_241_32 rfl (by decide) (zJ_in c3 rfl) rfl rfl]
        by_cases c4 : 0 ≤ (σ 78 (x1 - 1).toNatClampNeg) ∧ (σ 78 (x1 - 1).toNatClampNeg) < 97
        · rw [if_pos c4] at H
          rw [zp_iaload (n := 119) (K := zx_pk (zK L) 119) (σ := σ) (q := 8) (m := 97) (i := (σ 78 (x1 - 1).toNatClampNeg)) (k := (σ 78 (x1 - 1).toNatClampNeg).toNatClampNeg) (v := (σ 8 (σ 78 (x1 - 1).toNatClampNeg).toNatClampNeg)) zd_241_33 rfl (by decide) (zJ_in c4 rfl) rfl rfl]
          rw [zs_istore (x := (σ 8 (σ 78 (x1 - 1).toNatClampNeg).toNatClampNeg)) (ls' := [some (.ref 76), some (.int x1), some (.int x2), some (.int (σ 78 0)), some (.int (σ 8 (σ 78 (x1 - 1).toNatClampNeg).toNatClampNeg)), none, none]) zd_241_34 (Nat.le_of_ble_eq_true rfl) rfl]
          rw [zs_iload_n (ls := [some (.ref 76), some (.int x1), some (.int x2), some (.int (σ 78 0)), some (.int (σ 8 (σ 78 (x1 - 1).toNatClampNeg).toNatClampNeg)), none, none]) zd_241_36 rfl]
          rw [zs_iconst (z := 1) zd_241_37 (by decide)]
          by_cases c5 : x1 ≤ 1
          · rw [if_pos c5] at H
            rw [zp_icmp_le_t (x := x1) (y := 1) (t := 58) zd_241_38 rfl c5]
            rw [zs_iconst (z := 0) zd_241_58 (by decide)]
            exact zt_Judge_countRingsFrom_59 hB hkr  H
          · rw [if_neg c5] at H
            rw [zp_icmp_le_f (x := x1) (y := 1) (t := 58) zd_241_38 rfl c5]
            rw [zs_aload_n (ls := [some (.ref 76), some (.int x1), some (.int x2), some (.int (σ 78 0)), some (.int (σ 8 (σ 78 (x1 - 1).toNatClampNeg).toNatClampNeg)), none, none]) zd_241_41 rfl]
            rw [zs_getR (n := 119) (K := zx_pk (zK L) 119) (ρ := zR) (c := 1) (k := 0) (q := 76) (p := 4) zd_241_42 rfl rfl rfl (by decide) rfl]
            rw [zs_getR (n := 119) (K := zx_pk (zK L) 119) (ρ := zR) (c := 6) (k := 13) (q := 4) (p := 11) zd_241_45 rfl rfl rfl (by decide) rfl]
            rw [zs_iload_n (ls := [some (.ref 76), some (.int x1), some (.int x2), some (.int (σ 78 0)), some (.int (σ 8 (σ 78 (x1 - 1).toNatClampNeg).toNatClampNeg)), none, none]) zd_241_48 rfl]
            by_cases c8 : 0 ≤ (σ 78 0) ∧ (σ 78 0) < 97
            · rw [if_pos c8] at H
              rw [zp_iaload (n := 119) (K := zx_pk (zK L) 119) (σ := σ) (q := 11) (m := 97) (i := (σ 78 0)) (k := (σ 78 0).toNatClampNeg) (v := (σ 11 (σ 78 0).toNatClampNeg)) zd_241_49 rfl (by decide) (zJ_in c8 rfl) rfl rfl]
              rw [zs_iload (ls := [some (.ref 76), some (.int x1), some (.int x2), some (.int (σ 78 0)), some (.int (σ 8 (σ 78 (x1 - 1).toNatClampNeg).toNatClampNeg)), none, none]) zd_241_50 rfl]
              rw [zp_iushr (x := (σ 11 (σ 78 0).toNatClampNeg)) (y := (σ 8 (σ 78 (x1 - 1).toNatClampNeg).toNatClampNeg)) (z := (zJ_ushr (σ 11 (σ 78 0).toNatClampNeg) (σ 8 (σ 78 (x1 - 1).toNatClampNeg).toNatClampNeg))) zd_241_52 rfl]
              rw [zs_iconst (z := 1) zd_241_53 (by decide)]
              rw [zp_iand (x := (zJ_ushr (σ 11 (σ 78 0).toNatClampNeg) (σ 8 (σ 78 (x1 - 1).toNatClampNeg).toNatClampNeg))) (y := 1) (z := ((zJ_ushr (σ 11 (σ 78 0).toNatClampNeg) (σ 8 (σ 78 (x1 - 1).toNatClampNeg).toNatClampNeg)) &&& 1)) zd_241_54 rfl]
              rw [zs_goto (t := 59) zd_241_55 rfl]
              exact zt_Judge_countRingsFrom_59 hB hkr  H
            · rw [if_neg c8] at H
              cases H
        · rw [if_neg c4] at H
          cases H
      · rw [if_neg c3] at H
        cases H
    · rw [if_neg c2] at H
      rw [zp_icmp_le_f (x := x1) (y := 4) (t := 11) zd_241_6 rfl c2]
      rw [zs_iconst (z := 0) zd_241_9 (by decide)]
      have H := Option.some.inj H
      subst H
      exact zs_ireturn zd_241_10 (by decide +kernel)
theorem zt_Judge_countRingsFrom {a b L N : Nat} : ∀ {n : Nat} {σ : zS} {τ : zT} {x1 x2 : Int32} {r : Int32 × zS}, zf_Judge_countRingsFrom N n σ x1 x2 = some r → zx_go (20 + 2 * n) 241 0 [some (.ref 76), some (.int x1), some (.int x2), none, none, none, none] [] ((119, a, b), zx_pk (zK L) 119, σ, τ, zR) = some (some (.int r.1), ((119, a, b), zx_pk (zK L) 119, r.2, τ, zR)) := by
  intro n
  induction n with
  | zero =>
    intro _ _ _ _ _ H
    cases H
  | succ n ih =>
    intro σ τ x1 x2 r H
    rw [zf_Judge_countRingsFrom] at H
    exact zt_Judge_countRingsFromB (e := 20 + 2 * n) (Nat.le_add_right _ _) ih H
set_option maxRecDepth 20000 in
theorem zt_Judge_countRings_63 {a b L N : Nat} {k4 : zS → Int32 → Int32 → Option (Int32 × zS)} (hk4 : ∀ {σ : zS} {τ : zT} {v1 : Int32} {v2 : Int32} {o3 : Option Value} {r : Int32 × zS}, k4 σ v1 v2 = some r → zx_go 31 240 4 [some (.ref 76), some (.int v1), some (.int v2), o3] [] ((119, a, b), zx_pk (zK L) 119, σ, τ, zR) = some (some (.int r.1), ((119, a, b), zx_pk (zK L) 119, r.2, τ, zR))) {σ : zS} {τ : zT} {v1 : Int32} {v2 : Int32} {o3 : Option Value} {r : Int32 × zS} (H : zb_Judge_countRings_63 k4 N σ v1 v2 = some r) : zx_go 31 240 63 [some (.ref 76), some (.int v1), some (.int v2), o3] [] ((119, a, b), zx_pk (zK L) 119, σ, τ, zR) = some (some (.int r.1), ((119, a, b), zx_pk (zK L) 119, r.2, τ, zR)) := by
  unfold zb_Judge_countRings_63 at H
  rw [zs_iinc (ls := [some (.ref 76), some (.int v1), some (.int v2), o3]) (x := v2) (z := (v2 + 1)) (ls' := [some (.ref 76), some (.int v1), some (.int (v2 + 1)), o3]) zd_240_63 rfl rfl rfl]
  rw [zs_goto (t := 4) zd_240_66 rfl]
  exact hk4 H
set_option maxRecDepth 20000 in
theorem zt_Judge_countRings_4 {a b L N : Nat} : ∀ {n : Nat} {σ : zS} {τ : zT} {v1 : Int32} {v2 : Int32} {o3 : Option Value} {r : Int32 × zS}, zb_Judge_countRings_4 N n σ v1 v2 = some r → zx_go 31 240 4 [some (.ref 76), some (.int v1), some (.int v2), o3] [] ((119, a, b), zx_pk (zK L) 119, σ, τ, zR) = some (some (.int r.1), ((119, a, b), zx_pk (zK L) 119, r.2, τ, zR)) := by
  intro n
  induction n with
  | zero =>
    intro _ _ _ _ _ _ H
    cases H
  | succ n ih =>
    intro σ τ v1 v2 o3 r H
    rw [zb_Judge_countRings_4] at H
    rw [zs_iload_n (ls := [some (.ref 76), some (.int v1), some (.int v2), o3]) zd_240_4 rfl]
    rw [zs_bipush (z := 96) zd_240_5 (by decide)]
    by_cases c1 : 96 ≤ v2
    · rw [if_pos c1] at H
      rw [zp_icmp_ge_t (x := v2) (y := 96) (t := 69) zd_240_7 rfl c1]
      rw [zs_iload_n (ls := [some (.ref 76), some (.int v1), some (.int v2), o3]) zd_240_69 rfl]
      have H := Option.some.inj H
      subst H
      exact zs_ireturn zd_240_70 rfl
    · rw [if_neg c1] at H
      rw [zp_icmp_ge_f (x := v2) (y := 96) (t := 69) zd_240_7 rfl c1]
      rw [zs_aload_n (ls := [some (.ref 76), some (.int v1), some (.int v2), o3]) zd_240_10 rfl]
      rw [zs_getR (n := 119) (K := zx_pk (zK L) 119) (ρ := zR) (c := 1) (k := 0) (q := 76) (p := 4) zd_240_11 rfl rfl rfl (by decide) rfl]
      rw [zs_iload_n (ls := [some (.ref 76), some (.int v1), some (.int v2), o3]) zd_240_14 rfl]
      rw [zs_bipush (z := 24) zd_240_15 (by decide)]
      rw [zp_idiv (x := v2) (y := 24) (z := (v2 / 24)) zd_240_17 (by decide) rfl]
      rw [zs_iload_n (ls := [some (.ref 76), some (.int v1), some (.int v2), o3]) zd_240_18 rfl]
      rw [zs_bipush (z := 24) zd_240_19 (by decide)]
      rw [zp_irem (x := v2) (y := 24) (z := (zJ_rem v2 24)) zd_240_21 (by decide) rfl]
      obtain ⟨r2, hr2, H⟩ := Option.bind_eq_some_iff.mp H
      rw [zp_callVi (x := r2) (st := [.int (zJ_rem v2 24), .int (v2 / 24), .ref 4]) (as := [.ref 4, .int (v2 / 24), .int (zJ_rem v2 24)]) (rest := []) (e := 0) zd_240_22 rfl (by decide +kernel) (by decide) rfl rfl (Nat.le_of_ble_eq_true rfl) (zx_rcb_ok rfl (show 4 < 119 by decide)) (Nat.le_of_ble_eq_true rfl) rfl (by decide) (zt_Program_slotOf hr2)]
      rw [zs_istore_n (x := r2) (ls' := [some (.ref 76), some (.int v1), some (.int v2), some (.int r2)]) zd_240_25 (Nat.le_of_ble_eq_true rfl) rfl]
      rw [zs_aload_n (ls := [some (.ref 76), some (.int v1), some (.int v2), some (.int r2)]) zd_240_26 rfl]
      rw [zs_getR (n := 119) (K := zx_pk (zK L) 119) (ρ := zR) (c := 1) (k := 0) (q := 76) (p := 4) zd_240_27 rfl rfl rfl (by decide) rfl]
      rw [zs_getR (n := 119) (K := zx_pk (zK L) 119) (ρ := zR) (c := 6) (k := 9) (q := 4) (p := 7) zd_240_30 rfl rfl rfl (by decide) rfl]
      rw [zs_iload_n (ls := [some (.ref 76), some (.int v1), some (.int v2), some (.int r2)]) zd_240_33 rfl]
      by_cases c3 : 0 ≤ r2 ∧ r2 < 97
      · rw [if_pos c3] at H
        rw [zp_iaload (n := 119) (K := zx_pk (zK L) 119) (σ := σ) (q := 7) (m := 97) (i := r2) (k := r2.toNatClampNeg) (v := (σ 7 r2.toNatClampNeg)) zd_240_34 rfl (by decide) (zJ_in c3 rfl) rfl rfl]
        rw [zs_iconst (z := 3) zd_240_35 (by decide)]
        by_cases c4 : ¬ (σ 7 r2.toNatClampNeg) = 3
        · rw [if_pos c4] at H
          rw [zp_icmp_ne_t (x := (σ 7 r2.toNatClampNeg)) (y := 3) (t := 63) zd_240_36 rfl c4]
          exact zt_Judge_countRings_63 (hk4 := ih) H
        · rw [if_neg c4] at H
          rw [zp_icmp_ne_f (x := (σ 7 r2.toNatClampNeg)) (y := 3) (t := 63) zd_240_36 rfl c4]
          rw [zs_aload_n (ls := [some (.ref 76), some (.int v1), some (.int v2), some (.int r2)]) zd_240_39 rfl]
          rw [zs_getR (n := 119) (K := zx_pk (zK L) 119) (ρ := zR) (c := 1) (k := 2) (q := 76) (p := 78) zd_240_40 rfl rfl rfl (by decide) rfl]
          rw [zs_iconst (z := 0) zd_240_43 (by decide)]
          rw [zs_iload_n (ls := [some (.ref 76), some (.int v1), some (.int v2), some (.int r2)]) zd_240_44 rfl]
          rw [zp_iastore (n := 119) (K := zx_pk (zK L) 119) (q := 78) (m := 4) (i := 0) (k := 0) (x := r2) (z := r2) zd_240_45 rfl ⟨by decide, by decide⟩ (by decide) (by decide) rfl]
          rw [zs_iload_n (ls := [some (.ref 76), some (.int v1), some (.int v2), some (.int r2)]) zd_240_46 rfl]
          rw [zs_aload_n (ls := [some (.ref 76), some (.int v1), some (.int v2), some (.int r2)]) zd_240_47 rfl]
          rw [zs_iconst (z := 1) zd_240_48 (by decide)]
          rw [zs_aload_n (ls := [some (.ref 76), some (.int v1), some (.int v2), some (.int r2)]) zd_240_49 rfl]
          rw [zs_getR (n := 119) (K := zx_pk (zK L) 119) (ρ := zR) (c := 1) (k := 0) (q := 76) (p := 4) zd_240_50 rfl rfl rfl (by decide) rfl]
          rw [zs_getR (n := 119) (K := zx_pk (zK L) 119) (ρ := zR) (c := 6) (k := 13) (q := 4) (p := 11) zd_240_53 rfl rfl rfl (by decide) rfl]
          rw [zs_iload_n (ls := [some (.ref 76), some (.int v1), some (.int v2), some (.int r2)]) zd_240_56 rfl]
          by_cases c5 : 0 ≤ r2 ∧ r2 < 97
          · rw [if_pos c5] at H
            rw [zp_iaload (n := 119) (K := zx_pk (zK L) 119) (σ := (zx_up σ 78 0 r2)) (q := 11) (m := 97) (i := r2) (k := r2.toNatClampNeg) (v := (σ 11 r2.toNatClampNeg)) zd_240_57 rfl (by decide) (zJ_in c5 rfl) rfl (show ((zx_up σ 78 0 r2) : zS) 11 r2.toNatClampNeg = (σ 11 r2.toNatClampNeg) from ((zx_up_ne (by decide)).trans rfl))]
            obtain ⟨r6, hr6, H⟩ := Option.bind_eq_some_iff.mp H
            rw [zp_callVi (x := r6.1) (st := [.int (σ 11 r2.toNatClampNeg), .int 1, .ref 76, .int v1]) (as := [.ref 76, .int 1, .int (σ 11 r2.toNatClampNeg)]) (rest := [.int v1]) (e := 30) zd_240_58 rfl (by decide +kernel) (by decide) rfl rfl (Nat.le_of_ble_eq_true rfl) (zx_rcb_ok rfl (show 76 < 119 by decide)) (Nat.le_of_ble_eq_true rfl) rfl (by decide) (zt_Judge_countRingsFrom (n := 5) hr6)]
            rw [zp_iadd (x := v1) (y := r6.1) (z := (v1 + r6.1)) zd_240_61 rfl]
            rw [zs_istore_n (x := (v1 + r6.1)) (ls' := [some (.ref 76), some (.int (v1 + r6.1)), some (.int v2), some (.int r2)]) zd_240_62 (Nat.le_of_ble_eq_true rfl) rfl]
            exact zt_Judge_countRings_63 (hk4 := ih) H
          · rw [if_neg c5] at H
            cases H
      · rw [if_neg c3] at H
        cases H
set_option maxRecDepth 20000 in
theorem zt_Judge_countRings {a b L N : Nat} {σ : zS} {τ : zT} {r : Int32 × zS} (H : zf_Judge_countRings N σ = some r) : zx_go 31 240 0 [some (.ref 76), none, none, none] [] ((119, a, b), zx_pk (zK L) 119, σ, τ, zR) = some (some (.int r.1), ((119, a, b), zx_pk (zK L) 119, r.2, τ, zR)) := by
  unfold zf_Judge_countRings at H
  rw [zs_iconst (z := 0) zd_240_0 (by decide)]
  rw [zs_istore_n (x := 0) (ls' := [some (.ref 76), some (.int 0), none, none]) zd_240_1 (Nat.le_of_ble_eq_true rfl) rfl]
  rw [zs_iconst (z := 0) zd_240_2 (by decide)]
  rw [zs_istore_n (x := 0) (ls' := [some (.ref 76), some (.int 0), some (.int 0), none]) zd_240_3 (Nat.le_of_ble_eq_true rfl) rfl]
  exact zt_Judge_countRings_4  H
set_option maxRecDepth 20000 in
theorem zt_Judge_stepsWith_68 {a b L N : Nat} {k6 : zS → Int32 → Int32 → Int32 → Int32 → Int32 → Option (Int32)} (hk6 : ∀ {σ : zS} {τ : zT} {v1 : Int32} {v2 : Int32} {v3 : Int32} {v4 : Int32} {v5 : Int32} {o6 : Option Value} {r : Int32}, k6 σ v1 v2 v3 v4 v5 = some r → zx_go 1 233 6 [some (.ref 76), some (.int v1), some (.int v2), some (.int v3), some (.int v4), some (.int v5), o6] [] ((119, a, b), zx_pk (zK L) 119, σ, τ, zR) = some (some (.int r), ((119, a, b), zx_pk (zK L) 119, σ, τ, zR))) {σ : zS} {τ : zT} {v1 : Int32} {v2 : Int32} {v3 : Int32} {v4 : Int32} {v5 : Int32} {o6 : Option Value} {r : Int32} (H : zb_Judge_stepsWith_68 k6 N σ v1 v2 v3 v4 v5 = some r) : zx_go 1 233 68 [some (.ref 76), some (.int v1), some (.int v2), some (.int v3), some (.int v4), some (.int v5), o6] [] ((119, a, b), zx_pk (zK L) 119, σ, τ, zR) = some (some (.int r), ((119, a, b), zx_pk (zK L) 119, σ, τ, zR)) := by
  unfold zb_Judge_stepsWith_68 at H
  rw [zs_iinc (ls := [some (.ref 76), some (.int v1), some (.int v2), some (.int v3), some (.int v4), some (.int v5), o6]) (x := v5) (z := (v5 + 1)) (ls' := [some (.ref 76), some (.int v1), some (.int v2), some (.int v3), some (.int v4), some (.int (v5 + 1)), o6]) zd_233_68 rfl rfl rfl]
  rw [zs_goto (t := 6) zd_233_71 rfl]
  exact hk6 H
set_option maxRecDepth 20000 in
theorem zt_Judge_stepsWith_6 {a b L N : Nat} : ∀ {n : Nat} {σ : zS} {τ : zT} {v1 : Int32} {v2 : Int32} {v3 : Int32} {v4 : Int32} {v5 : Int32} {o6 : Option Value} {r : Int32}, zb_Judge_stepsWith_6 N n σ v1 v2 v3 v4 v5 = some r → zx_go 1 233 6 [some (.ref 76), some (.int v1), some (.int v2), some (.int v3), some (.int v4), some (.int v5), o6] [] ((119, a, b), zx_pk (zK L) 119, σ, τ, zR) = some (some (.int r), ((119, a, b), zx_pk (zK L) 119, σ, τ, zR)) := by
  intro n
  induction n with
  | zero =>
    intro _ _ _ _ _ _ _ _ _ H
    cases H
  | succ n ih =>
    intro σ τ v1 v2 v3 v4 v5 o6 r H
    rw [zb_Judge_stepsWith_6] at H
    rw [zs_iload (ls := [some (.ref 76), some (.int v1), some (.int v2), some (.int v3), some (.int v4), some (.int v5), o6]) zd_233_6 rfl]
    rw [zs_aload_n (ls := [some (.ref 76), some (.int v1), some (.int v2), some (.int v3), some (.int v4), some (.int v5), o6]) zd_233_8 rfl]
    rw [zs_getR (n := 119) (K := zx_pk (zK L) 119) (ρ := zR) (c := 1) (k := 0) (q := 76) (p := 4) zd_233_9 rfl rfl rfl (by decide) rfl]
    rw [zs_iload_n (ls := [some (.ref 76), some (.int v1), some (.int v2), some (.int v3), some (.int v4), some (.int v5), o6]) zd_233_12 rfl]
    obtain ⟨r1, hr1, H⟩ := Option.bind_eq_some_iff.mp H
    rw [zp_callVi (x := r1) (st := [.int v1, .ref 4, .int v5]) (as := [.ref 4, .int v1]) (rest := [.int v5]) (e := 0) zd_233_13 rfl (by decide +kernel) (by decide) rfl rfl (Nat.le_of_ble_eq_true rfl) (zx_rcb_ok rfl (show 4 < 119 by decide)) (Nat.le_of_ble_eq_true rfl) rfl (by decide) (zt_Program_lengthOf hr1)]
    by_cases c2 : r1 ≤ v5
    · rw [if_pos c2] at H
      rw [zp_icmp_ge_t (x := v5) (y := r1) (t := 74) zd_233_16 rfl c2]
      rw [zs_iload (ls := [some (.ref 76), some (.int v1), some (.int v2), some (.int v3), some (.int v4), some (.int v5), o6]) zd_233_74 rfl]
      have H := Option.some.inj H
      subst H
      exact zs_ireturn zd_233_76 rfl
    · rw [if_neg c2] at H
      rw [zp_icmp_ge_f (x := v5) (y := r1) (t := 74) zd_233_16 rfl c2]
      rw [zs_aload_n (ls := [some (.ref 76), some (.int v1), some (.int v2), some (.int v3), some (.int v4), some (.int v5), o6]) zd_233_19 rfl]
      rw [zs_getR (n := 119) (K := zx_pk (zK L) 119) (ρ := zR) (c := 1) (k := 0) (q := 76) (p := 4) zd_233_20 rfl rfl rfl (by decide) rfl]
      rw [zs_iload_n (ls := [some (.ref 76), some (.int v1), some (.int v2), some (.int v3), some (.int v4), some (.int v5), o6]) zd_233_23 rfl]
      rw [zs_iload (ls := [some (.ref 76), some (.int v1), some (.int v2), some (.int v3), some (.int v4), some (.int v5), o6]) zd_233_24 rfl]
      obtain ⟨r3, hr3, H⟩ := Option.bind_eq_some_iff.mp H
      rw [zp_callVi (x := r3) (st := [.int v5, .int v1, .ref 4]) (as := [.ref 4, .int v1, .int v5]) (rest := []) (e := 0) zd_233_26 rfl (by decide +kernel) (by decide) rfl rfl (Nat.le_of_ble_eq_true rfl) (zx_rcb_ok rfl (show 4 < 119 by decide)) (Nat.le_of_ble_eq_true rfl) rfl (by decide) (zt_Program_slotOf hr3)]
      rw [zs_istore (x := r3) (ls' := [some (.ref 76), some (.int v1), some (.int v2), some (.int v3), some (.int v4), some (.int v5), some (.int r3)]) zd_233_29 (Nat.le_of_ble_eq_true rfl) rfl]
      rw [zs_aload_n (ls := [some (.ref 76), some (.int v1), some (.int v2), some (.int v3), some (.int v4), some (.int v5), some (.int r3)]) zd_233_31 rfl]
      rw [zs_getR (n := 119) (K := zx_pk (zK L) 119) (ρ := zR) (c := 1) (k := 0) (q := 76) (p := 4) zd_233_32 rfl rfl rfl (by decide) rfl]
      rw [zs_getR (n := 119) (K := zx_pk (zK L) 119) (ρ := zR) (c := 6) (k := 9) (q := 4) (p := 7) zd_233_35 rfl rfl rfl (by decide) rfl]
      rw [zs_iload (ls := [some (.ref 76), some (.int v1), some (.int v2), some (.int v3), some (.int v4), some (.int v5), some (.int r3)]) zd_233_38 rfl]
      by_cases c4 : 0 ≤ r3 ∧ r3 < 97
      · rw [if_pos c4] at H
        rw [zp_iaload (n := 119) (K := zx_pk (zK L) 119) (σ := σ) (q := 7) (m := 97) (i := r3) (k := r3.toNatClampNeg) (v := (σ 7 r3.toNatClampNeg)) zd_233_40 rfl (by decide) (zJ_in c4 rfl) rfl rfl]
        rw [zs_iload_n (ls := [some (.ref 76), some (.int v1), some (.int v2), some (.int v3), some (.int v4), some (.int v5), some (.int r3)]) zd_233_41 rfl]
        by_cases c5 : ¬ (σ 7 r3.toNatClampNeg) = v2
        · rw [if_pos c5] at H
          rw [zp_icmp_ne_t (x := (σ 7 r3.toNatClampNeg)) (y := v2) (t := 68) zd_233_42 rfl c5]
          exact zt_Judge_stepsWith_68 (hk6 := ih) H
        · rw [if_neg c5] at H
          rw [zp_icmp_ne_f (x := (σ 7 r3.toNatClampNeg)) (y := v2) (t := 68) zd_233_42 rfl c5]
          rw [zs_aload_n (ls := [some (.ref 76), some (.int v1), some (.int v2), some (.int v3), some (.int v4), some (.int v5), some (.int r3)]) zd_233_45 rfl]
          rw [zs_getR (n := 119) (K := zx_pk (zK L) 119) (ρ := zR) (c := 1) (k := 0) (q := 76) (p := 4) zd_233_46 rfl rfl rfl (by decide) rfl]
          rw [zs_getR (n := 119) (K := zx_pk (zK L) 119) (ρ := zR) (c := 6) (k := 10) (q := 4) (p := 8) zd_233_49 rfl rfl rfl (by decide) rfl]
          rw [zs_iload (ls := [some (.ref 76), some (.int v1), some (.int v2), some (.int v3), some (.int v4), some (.int v5), some (.int r3)]) zd_233_52 rfl]
          by_cases c6 : 0 ≤ r3 ∧ r3 < 97
          · rw [if_pos c6] at H
            rw [zp_iaload (n := 119) (K := zx_pk (zK L) 119) (σ := σ) (q := 8) (m := 97) (i := r3) (k := r3.toNatClampNeg) (v := (σ 8 r3.toNatClampNeg)) zd_233_54 rfl (by decide) (zJ_in c6 rfl) rfl rfl]
            rw [zs_iload_n (ls := [some (.ref 76), some (.int v1), some (.int v2), some (.int v3), some (.int v4), some (.int v5), some (.int r3)]) zd_233_55 rfl]
            by_cases c7 : ¬ (σ 8 r3.toNatClampNeg) = v3
            · rw [if_pos c7] at H
              rw [zp_icmp_ne_t (x := (σ 8 r3.toNatClampNeg)) (y := v3) (t := 68) zd_233_56 rfl c7]
              exact zt_Judge_stepsWith_68 (hk6 := ih) H
            · rw [if_neg c7] at H
              rw [zp_icmp_ne_f (x := (σ 8 r3.toNatClampNeg)) (y := v3) (t := 68) zd_233_56 rfl c7]
              rw [zs_iload (ls := [some (.ref 76), some (.int v1), some (.int v2), some (.int v3), some (.int v4), some (.int v5), some (.int r3)]) zd_233_59 rfl]
              rw [zs_iconst (z := 1) zd_233_61 (by decide)]
              rw [zs_iload (ls := [some (.ref 76), some (.int v1), some (.int v2), some (.int v3), some (.int v4), some (.int v5), some (.int r3)]) zd_233_62 rfl]
              rw [zp_ishl (x := 1) (y := v5) (z := (zJ_shl 1 v5)) zd_233_64 rfl]
              rw [zp_ior (x := v4) (y := (zJ_shl 1 v5)) (z := (v4 ||| (zJ_shl 1 v5))) zd_233_65 rfl]
              rw [zs_istore (x := (v4 ||| (zJ_shl 1 v5))) (ls' := [some (.ref 76), some (.int v1), some (.int v2), some (.int v3), some (.int (v4 ||| (zJ_shl 1 v5))), some (.int v5), some (.int r3)]) zd_233_66 (Nat.le_of_ble_eq_true rfl) rfl]
              exact zt_Judge_stepsWith_68 (hk6 := ih) H
          · rw [if_neg c6] at H
            cases H
      · rw [if_neg c4] at H
        cases H
set_option maxRecDepth 20000 in
theorem zt_Judge_stepsWith {a b L N : Nat} {σ : zS} {τ : zT} {x1 : Int32} {x2 : Int32} {x3 : Int32} {r : Int32} (H : zf_Judge_stepsWith N σ x1 x2 x3 = some r) : zx_go 1 233 0 [some (.ref 76), some (.int x1), some (.int x2), some (.int x3), none, none, none] [] ((119, a, b), zx_pk (zK L) 119, σ, τ, zR) = some (some (.int r), ((119, a, b), zx_pk (zK L) 119, σ, τ, zR)) := by
  unfold zf_Judge_stepsWith at H
  rw [zs_iconst (z := 0) zd_233_0 (by decide)]
  rw [zs_istore (x := 0) (ls' := [some (.ref 76), some (.int x1), some (.int x2), some (.int x3), some (.int 0), none, none]) zd_233_1 (Nat.le_of_ble_eq_true rfl) rfl]
  rw [zs_iconst (z := 0) zd_233_3 (by decide)]
  rw [zs_istore (x := 0) (ls' := [some (.ref 76), some (.int x1), some (.int x2), some (.int x3), some (.int 0), some (.int 0), none]) zd_233_4 (Nat.le_of_ble_eq_true rfl) rfl]
  exact zt_Judge_stepsWith_6  H
set_option maxRecDepth 20000 in
theorem zt_Judge_behind_62 {a b L : Nat} {σ : zS} {τ : zT} {v5 : Int32} {v6 : Int32} {s0 : Int32} {o0 : Option Value} {o1 : Option Value} {o2 : Option Value} {o3 : Option Value} {o4 : Option Value} {o7 : Option Value} {r : Int32} (H : zb_Judge_behind_62 σ v5 v6 s0 = some r) : zx_go 1 235 62 [o0, o1, o2, o3, o4, some (.int v5), some (.int v6), o7] [.int s0] ((119, a, b), zx_pk (zK L) 119, σ, τ, zR) = some (some (.int r), ((119, a, b), zx_pk (zK L) 119, σ, τ, zR)) := by
  unfold zb_Judge_behind_62 at H
  rw [zs_istore (x := s0) (ls' := [o0, o1, o2, o3, o4, some (.int v5), some (.int v6), some (.int s0)]) zd_235_62 (Nat.le_of_ble_eq_true rfl) rfl]
  rw [zs_iload (ls := [o0, o1, o2, o3, o4, some (.int v5), some (.int v6), some (.int s0)]) zd_235_64 rfl]
  by_cases c6 : v5 < 0
  · rw [if_pos c6] at H
    rw [zp_if_lt_t (x := v5) (t := 86) zd_235_66 rfl c6]
    rw [zs_iload (ls := [o0, o1, o2, o3, o4, some (.int v5), some (.int v6), some (.int s0)]) zd_235_86 rfl]
    have H := Option.some.inj H
    subst H
    exact zs_ireturn zd_235_88 rfl
  · rw [if_neg c6] at H
    rw [zp_if_lt_f (x := v5) (t := 86) zd_235_66 rfl c6]
    rw [zs_iload (ls := [o0, o1, o2, o3, o4, some (.int v5), some (.int v6), some (.int s0)]) zd_235_69 rfl]
    rw [zs_iload (ls := [o0, o1, o2, o3, o4, some (.int v5), some (.int v6), some (.int s0)]) zd_235_71 rfl]
    by_cases c7 : v6 ≤ v5
    · rw [if_pos c7] at H
      rw [zp_icmp_ge_t (x := v5) (y := v6) (t := 86) zd_235_73 rfl c7]
      rw [zs_iload (ls := [o0, o1, o2, o3, o4, some (.int v5), some (.int v6), some (.int s0)]) zd_235_86 rfl]
      have H := Option.some.inj H
      subst H
      exact zs_ireturn zd_235_88 rfl
    · rw [if_neg c7] at H
      rw [zp_icmp_ge_f (x := v5) (y := v6) (t := 86) zd_235_73 rfl c7]
      rw [zs_iload (ls := [o0, o1, o2, o3, o4, some (.int v5), some (.int v6), some (.int s0)]) zd_235_76 rfl]
      rw [zs_iconst (z := 1) zd_235_78 (by decide)]
      rw [zs_iload (ls := [o0, o1, o2, o3, o4, some (.int v5), some (.int v6), some (.int s0)]) zd_235_79 rfl]
      rw [zp_ishl (x := 1) (y := v5) (z := (zJ_shl 1 v5)) zd_235_81 rfl]
      rw [zp_ior (x := s0) (y := (zJ_shl 1 v5)) (z := (s0 ||| (zJ_shl 1 v5))) zd_235_82 rfl]
      rw [zs_goto (t := 88) zd_235_83 rfl]
      have H := Option.some.inj H
      subst H
      exact zs_ireturn zd_235_88 rfl
set_option maxRecDepth 20000 in
theorem zt_Judge_behind_61 {a b L : Nat} {σ : zS} {τ : zT} {v5 : Int32} {v6 : Int32} {o0 : Option Value} {o1 : Option Value} {o2 : Option Value} {o3 : Option Value} {o4 : Option Value} {o7 : Option Value} {r : Int32} (H : zb_Judge_behind_61 σ v5 v6 = some r) : zx_go 1 235 61 [o0, o1, o2, o3, o4, some (.int v5), some (.int v6), o7] [] ((119, a, b), zx_pk (zK L) 119, σ, τ, zR) = some (some (.int r), ((119, a, b), zx_pk (zK L) 119, σ, τ, zR)) := by
  unfold zb_Judge_behind_61 at H
  rw [zs_iconst (z := 0) zd_235_61 (by decide)]
  exact zt_Judge_behind_62  H
set_option maxRecDepth 20000 in
theorem zt_Judge_behind {a b L : Nat} {σ : zS} {τ : zT} {x1 : Int32} {x2 : Int32} {r : Int32} (H : zf_Judge_behind σ x1 x2 = some r) : zx_go 1 235 0 [some (.ref 76), some (.int x1), some (.int x2), none, none, none, none, none] [] ((119, a, b), zx_pk (zK L) 119, σ, τ, zR) = some (some (.int r), ((119, a, b), zx_pk (zK L) 119, σ, τ, zR)) := by
  unfold zf_Judge_behind at H
  rw [zs_aload_n (ls := [some (.ref 76), some (.int x1), some (.int x2), none, none, none, none, none]) zd_235_0 rfl]
  rw [zs_getR (n := 119) (K := zx_pk (zK L) 119) (ρ := zR) (c := 1) (k := 0) (q := 76) (p := 4) zd_235_1 rfl rfl rfl (by decide) rfl]
  rw [zs_iload_n (ls := [some (.ref 76), some (.int x1), some (.int x2), none, none, none, none, none]) zd_235_4 rfl]
  rw [zs_iload_n (ls := [some (.ref 76), some (.int x1), some (.int x2), none, none, none, none, none]) zd_235_5 rfl]
  obtain ⟨r1, hr1, H⟩ := Option.bind_eq_some_iff.mp H
  rw [zp_callVi (x := r1) (st := [.int x2, .int x1, .ref 4]) (as := [.ref 4, .int x1, .int x2]) (rest := []) (e := 0) zd_235_6 rfl (by decide +kernel) (by decide) rfl rfl (Nat.le_of_ble_eq_true rfl) (zx_rcb_ok rfl (show 4 < 119 by decide)) (Nat.le_of_ble_eq_true rfl) rfl (by decide) (zt_Program_slotOf hr1)]
  rw [zs_istore_n (x := r1) (ls' := [some (.ref 76), some (.int x1), some (.int x2), some (.int r1), none, none, none, none]) zd_235_9 (Nat.le_of_ble_eq_true rfl) rfl]
  rw [zs_aload_n (ls := [some (.ref 76), some (.int x1), some (.int x2), some (.int r1), none, none, none, none]) zd_235_10 rfl]
  rw [zs_getR (n := 119) (K := zx_pk (zK L) 119) (ρ := zR) (c := 1) (k := 0) (q := 76) (p := 4) zd_235_11 rfl rfl rfl (by decide) rfl]
  rw [zs_getR (n := 119) (K := zx_pk (zK L) 119) (ρ := zR) (c := 6) (k := 11) (q := 4) (p := 9) zd_235_14 rfl rfl rfl (by decide) rfl]
  rw [zs_iload_n (ls := [some (.ref 76), some (.int x1), some (.int x2), some (.int r1), none, none, none, none]) zd_235_17 rfl]
  by_cases c2 : 0 ≤ r1 ∧ r1 < 97
  · rw [if_pos c2] at H
    rw [zp_iaload (n := 119) (K := zx_pk (zK L) 119) (σ := σ) (q := 9) (m := 97) (i := r1) (k := r1.toNatClampNeg) (v := (σ 9 r1.toNatClampNeg)) zd_235_18 rfl (by decide) (zJ_in c2 rfl) rfl rfl]
    rw [zs_istore (x := (σ 9 r1.toNatClampNeg)) (ls' := [some (.ref 76), some (.int x1), some (.int x2), some (.int r1), some (.int (σ 9 r1.toNatClampNeg)), none, none, none]) zd_235_19 (Nat.le_of_ble_eq_true rfl) rfl]
    rw [zs_aload_n (ls := [some (.ref 76), some (.int x1), some (.int x2), some (.int r1), some (.int (σ 9 r1.toNatClampNeg)), none, none, none]) zd_235_21 rfl]
    rw [zs_getR (n := 119) (K := zx_pk (zK L) 119) (ρ := zR) (c := 1) (k := 0) (q := 76) (p := 4) zd_235_22 rfl rfl rfl (by decide) rfl]
    rw [zs_getR (n := 119) (K := zx_pk (zK L) 119) (ρ := zR) (c := 6) (k := 12) (q := 4) (p := 10) zd_235_25 rfl rfl rfl (by decide) rfl]
    rw [zs_iload_n (ls := [some (.ref 76), some (.int x1), some (.int x2), some (.int r1), some (.int (σ 9 r1.toNatClampNeg)), none, none, none]) zd_235_28 rfl]
    by_cases c3 : 0 ≤ r1 ∧ r1 < 97
    · rw [if_pos c3] at H
      rw [zp_iaload (n := 119) (K := zx_pk (zK L) 119) (σ := σ) (q := 10) (m := 97) (i := r1) (k := r1.toNatClampNeg) (v := (σ 10 r1.toNatClampNeg)) zd_235_29 rfl (by decide) (zJ_in c3 rfl) rfl rfl]
      rw [zs_istore (x := (σ 10 r1.toNatClampNeg)) (ls' := [some (.ref 76), some (.int x1), some (.int x2), some (.int r1), some (.int (σ 9 r1.toNatClampNeg)), some (.int (σ 10 r1.toNatClampNeg)), none, none]) zd_235_30 (Nat.le_of_ble_eq_true rfl) rfl]
      rw [zs_aload_n (ls := [some (.ref 76), some (.int x1), some (.int x2), some (.int r1), some (.int (σ 9 r1.toNatClampNeg)), some (.int (σ 10 r1.toNatClampNeg)), none, none]) zd_235_32 rfl]
      rw [zs_getR (n := 119) (K := zx_pk (zK L) 119) (ρ := zR) (c := 1) (k := 0) (q := 76) (p := 4) zd_235_33 rfl rfl rfl (by decide) rfl]
      rw [zs_iload_n (ls := [some (.ref 76), some (.int x1), some (.int x2), some (.int r1), some (.int (σ 9 r1.toNatClampNeg)), some (.int (σ 10 r1.toNatClampNeg)), none, none]) zd_235_36 rfl]
      obtain ⟨r4, hr4, H⟩ := Option.bind_eq_some_iff.mp H
      rw [zp_callVi (x := r4) (st := [.int x1, .ref 4]) (as := [.ref 4, .int x1]) (rest := []) (e := 0) zd_235_37 rfl (by decide +kernel) (by decide) rfl rfl (Nat.le_of_ble_eq_true rfl) (zx_rcb_ok rfl (show 4 < 119 by decide)) (Nat.le_of_ble_eq_true rfl) rfl (by decide) (zt_Program_lengthOf hr4)]
      rw [zs_istore (x := r4) (ls' := [some (.ref 76), some (.int x1), some (.int x2), some (.int r1), some (.int (σ 9 r1.toNatClampNeg)), some (.int (σ 10 r1.toNatClampNeg)), some (.int r4), none]) zd_235_40 (Nat.le_of_ble_eq_true rfl) rfl]
      rw [zs_iload (ls := [some (.ref 76), some (.int x1), some (.int x2), some (.int r1), some (.int (σ 9 r1.toNatClampNeg)), some (.int (σ 10 r1.toNatClampNeg)), some (.int r4), none]) zd_235_42 rfl]
      by_cases c5 : (σ 9 r1.toNatClampNeg) < 0
      · rw [if_pos c5] at H
        rw [zp_if_lt_t (x := (σ 9 r1.toNatClampNeg)) (t := 61) zd_235_44 rfl c5]
        exact zt_Judge_behind_61  H
      · rw [if_neg c5] at H
        rw [zp_if_lt_f (x := (σ 9 r1.toNatClampNeg)) (t := 61) zd_235_44 rfl c5]
        rw [zs_iload (ls := [some (.ref 76), some (.int x1), some (.int x2), some (.int r1), some (.int (σ 9 r1.toNatClampNeg)), some (.int (σ 10 r1.toNatClampNeg)), some (.int r4), none]) zd_235_47 rfl]
        rw [zs_iload (ls := [some (.ref 76), some (.int x1), some (.int x2), some (.int r1), some (.int (σ 9 r1.toNatClampNeg)), some (.int (σ 10 r1.toNatClampNeg)), some (.int r4), none]) zd_235_49 rfl]
        by_cases c8 : r4 ≤ (σ 9 r1.toNatClampNeg)
        · rw [if_pos c8] at H
          rw [zp_icmp_ge_t (x := (σ 9 r1.toNatClampNeg)) (y := r4) (t := 61) zd_235_51 rfl c8]
          exact zt_Judge_behind_61  H
        · rw [if_neg c8] at H
          rw [zp_icmp_ge_f (x := (σ 9 r1.toNatClampNeg)) (y := r4) (t := 61) zd_235_51 rfl c8]
          rw [zs_iconst (z := 1) zd_235_54 (by decide)]
          rw [zs_iload (ls := [some (.ref 76), some (.int x1), some (.int x2), some (.int r1), some (.int (σ 9 r1.toNatClampNeg)), some (.int (σ 10 r1.toNatClampNeg)), some (.int r4), none]) zd_235_55 rfl]
          rw [zp_ishl (x := 1) (y := (σ 9 r1.toNatClampNeg)) (z := (zJ_shl 1 (σ 9 r1.toNatClampNeg))) zd_235_57 rfl]
          rw [zs_goto (t := 62) zd_235_58 rfl]
          exact zt_Judge_behind_62  H
    · rw [if_neg c3] at H
      cases H
  · rw [if_neg c2] at H
    cases H
set_option maxRecDepth 20000 in
theorem zt_Judge_spread_53 {a b L N : Nat} {k20 : zS → Int32 → Int32 → Int32 → Int32 → Int32 → Int32 → Option (Int32)} (hk20 : ∀ {σ : zS} {τ : zT} {v1 : Int32} {v3 : Int32} {v4 : Int32} {v5 : Int32} {v6 : Int32} {v7 : Int32} {o2 : Option Value} {r : Int32}, k20 σ v1 v3 v4 v5 v6 v7 = some r → zx_go 2 234 20 [some (.ref 76), some (.int v1), o2, some (.int v3), some (.int v4), some (.int v5), some (.int v6), some (.int v7)] [] ((119, a, b), zx_pk (zK L) 119, σ, τ, zR) = some (some (.int r), ((119, a, b), zx_pk (zK L) 119, σ, τ, zR))) {σ : zS} {τ : zT} {v1 : Int32} {v3 : Int32} {v4 : Int32} {v5 : Int32} {v6 : Int32} {v7 : Int32} {o2 : Option Value} {r : Int32} (H : zb_Judge_spread_53 k20 N σ v1 v3 v4 v5 v6 v7 = some r) : zx_go 2 234 53 [some (.ref 76), some (.int v1), o2, some (.int v3), some (.int v4), some (.int v5), some (.int v6), some (.int v7)] [] ((119, a, b), zx_pk (zK L) 119, σ, τ, zR) = some (some (.int r), ((119, a, b), zx_pk (zK L) 119, σ, τ, zR)) := by
  unfold zb_Judge_spread_53 at H
  rw [zs_iinc (ls := [some (.ref 76), some (.int v1), o2, some (.int v3), some (.int v4), some (.int v5), some (.int v6), some (.int v7)]) (x := v7) (z := (v7 + 1)) (ls' := [some (.ref 76), some (.int v1), o2, some (.int v3), some (.int v4), some (.int v5), some (.int v6), some (.int (v7 + 1))]) zd_234_53 rfl rfl rfl]
  rw [zs_goto (t := 20) zd_234_56 rfl]
  exact hk20 H
set_option maxRecDepth 20000 in
theorem zt_Judge_spread_20 {a b L N : Nat} {k6 : zS → Int32 → Int32 → Int32 → Int32 → Option (Int32)} (hk6 : ∀ {σ : zS} {τ : zT} {v1 : Int32} {v3 : Int32} {v4 : Int32} {v5 : Int32} {o2 : Option Value} {o6 : Option Value} {o7 : Option Value} {r : Int32}, k6 σ v1 v3 v4 v5 = some r → zx_go 2 234 6 [some (.ref 76), some (.int v1), o2, some (.int v3), some (.int v4), some (.int v5), o6, o7] [] ((119, a, b), zx_pk (zK L) 119, σ, τ, zR) = some (some (.int r), ((119, a, b), zx_pk (zK L) 119, σ, τ, zR))) : ∀ {n : Nat} {σ : zS} {τ : zT} {v1 : Int32} {v3 : Int32} {v4 : Int32} {v5 : Int32} {v6 : Int32} {v7 : Int32} {o2 : Option Value} {r : Int32}, zb_Judge_spread_20 k6 N n σ v1 v3 v4 v5 v6 v7 = some r → zx_go 2 234 20 [some (.ref 76), some (.int v1), o2, some (.int v3), some (.int v4), some (.int v5), some (.int v6), some (.int v7)] [] ((119, a, b), zx_pk (zK L) 119, σ, τ, zR) = some (some (.int r), ((119, a, b), zx_pk (zK L) 119, σ, τ, zR)) := by
  intro n
  induction n with
  | zero =>
    intro _ _ _ _ _ _ _ _ _ _ H
    cases H
  | succ n ih =>
    intro σ τ v1 v3 v4 v5 v6 v7 o2 r H
    rw [zb_Judge_spread_20] at H
    rw [zs_iload (ls := [some (.ref 76), some (.int v1), o2, some (.int v3), some (.int v4), some (.int v5), some (.int v6), some (.int v7)]) zd_234_20 rfl]
    rw [zs_bipush (z := 24) zd_234_22 (by decide)]
    by_cases c2 : 24 ≤ v7
    · rw [if_pos c2] at H
      rw [zp_icmp_ge_t (x := v7) (y := 24) (t := 59) zd_234_24 rfl c2]
      rw [zs_iload (ls := [some (.ref 76), some (.int v1), o2, some (.int v3), some (.int v4), some (.int v5), some (.int v6), some (.int v7)]) zd_234_59 rfl]
      rw [zs_iload (ls := [some (.ref 76), some (.int v1), o2, some (.int v3), some (.int v4), some (.int v5), some (.int v6), some (.int v7)]) zd_234_61 rfl]
      by_cases c3 : ¬ v4 = v6
      · rw [if_pos c3] at H
        rw [zp_icmp_ne_t (x := v4) (y := v6) (t := 69) zd_234_63 rfl c3]
        rw [zs_iinc (ls := [some (.ref 76), some (.int v1), o2, some (.int v3), some (.int v4), some (.int v5), some (.int v6), some (.int v7)]) (x := v5) (z := (v5 + 1)) (ls' := [some (.ref 76), some (.int v1), o2, some (.int v3), some (.int v4), some (.int (v5 + 1)), some (.int v6), some (.int v7)]) zd_234_69 rfl rfl rfl]
        rw [zs_goto (t := 6) zd_234_72 rfl]
        exact hk6 H
      · rw [if_neg c3] at H
        rw [zp_icmp_ne_f (x := v4) (y := v6) (t := 69) zd_234_63 rfl c3]
        rw [zs_iload (ls := [some (.ref 76), some (.int v1), o2, some (.int v3), some (.int v4), some (.int v5), some (.int v6), some (.int v7)]) zd_234_66 rfl]
        have H := Option.some.inj H
        subst H
        exact zs_ireturn zd_234_68 rfl
    · rw [if_neg c2] at H
      rw [zp_icmp_ge_f (x := v7) (y := 24) (t := 59) zd_234_24 rfl c2]
      rw [zs_iload (ls := [some (.ref 76), some (.int v1), o2, some (.int v3), some (.int v4), some (.int v5), some (.int v6), some (.int v7)]) zd_234_27 rfl]
      rw [zs_iload_n (ls := [some (.ref 76), some (.int v1), o2, some (.int v3), some (.int v4), some (.int v5), some (.int v6), some (.int v7)]) zd_234_29 rfl]
      rw [zs_iconst (z := (-1)) zd_234_30 (by decide)]
      rw [zp_ixor (x := v3) (y := (-1)) (z := (v3 ^^^ (-1))) zd_234_31 rfl]
      rw [zp_iand (x := v4) (y := (v3 ^^^ (-1))) (z := (v4 &&& (v3 ^^^ (-1)))) zd_234_32 rfl]
      rw [zs_iconst (z := 1) zd_234_33 (by decide)]
      rw [zs_iload (ls := [some (.ref 76), some (.int v1), o2, some (.int v3), some (.int v4), some (.int v5), some (.int v6), some (.int v7)]) zd_234_34 rfl]
      rw [zp_ishl (x := 1) (y := v7) (z := (zJ_shl 1 v7)) zd_234_36 rfl]
      rw [zp_iand (x := (v4 &&& (v3 ^^^ (-1)))) (y := (zJ_shl 1 v7)) (z := ((v4 &&& (v3 ^^^ (-1))) &&& (zJ_shl 1 v7))) zd_234_37 rfl]
      by_cases c4 : ((v4 &&& (v3 ^^^ (-1))) &&& (zJ_shl 1 v7)) = 0
      · rw [if_pos c4] at H
        rw [zp_if_eq_t (x := ((v4 &&& (v3 ^^^ (-1))) &&& (zJ_shl 1 v7))) (t := 53) zd_234_38 rfl c4]
        exact zt_Judge_spread_53 (hk20 := ih) H
      · rw [if_neg c4] at H
        rw [zp_if_eq_f (x := ((v4 &&& (v3 ^^^ (-1))) &&& (zJ_shl 1 v7))) (t := 53) zd_234_38 rfl c4]
        rw [zs_iload (ls := [some (.ref 76), some (.int v1), o2, some (.int v3), some (.int v4), some (.int v5), some (.int v6), some (.int v7)]) zd_234_41 rfl]
        rw [zs_aload_n (ls := [some (.ref 76), some (.int v1), o2, some (.int v3), some (.int v4), some (.int v5), some (.int v6), some (.int v7)]) zd_234_43 rfl]
        rw [zs_iload_n (ls := [some (.ref 76), some (.int v1), o2, some (.int v3), some (.int v4), some (.int v5), some (.int v6), some (.int v7)]) zd_234_44 rfl]
        rw [zs_iload (ls := [some (.ref 76), some (.int v1), o2, some (.int v3), some (.int v4), some (.int v5), some (.int v6), some (.int v7)]) zd_234_45 rfl]
        obtain ⟨r5, hr5, H⟩ := Option.bind_eq_some_iff.mp H
        rw [zp_callVi (x := r5) (st := [.int v7, .int v1, .ref 76, .int v4]) (as := [.ref 76, .int v1, .int v7]) (rest := [.int v4]) (e := 1) zd_234_47 rfl (by decide +kernel) (by decide) rfl rfl (Nat.le_of_ble_eq_true rfl) (zx_rcb_ok rfl (show 76 < 119 by decide)) (Nat.le_of_ble_eq_true rfl) rfl (by decide) (zt_Judge_behind hr5)]
        rw [zp_ior (x := v4) (y := r5) (z := (v4 ||| r5)) zd_234_50 rfl]
        rw [zs_istore (x := (v4 ||| r5)) (ls' := [some (.ref 76), some (.int v1), o2, some (.int v3), some (.int (v4 ||| r5)), some (.int v5), some (.int v6), some (.int v7)]) zd_234_51 (Nat.le_of_ble_eq_true rfl) rfl]
        exact zt_Judge_spread_53 (hk20 := ih) H
set_option maxRecDepth 20000 in
theorem zt_Judge_spread_6 {a b L N : Nat} : ∀ {n : Nat} {σ : zS} {τ : zT} {v1 : Int32} {v3 : Int32} {v4 : Int32} {v5 : Int32} {o2 : Option Value} {o6 : Option Value} {o7 : Option Value} {r : Int32}, zb_Judge_spread_6 N n σ v1 v3 v4 v5 = some r → zx_go 2 234 6 [some (.ref 76), some (.int v1), o2, some (.int v3), some (.int v4), some (.int v5), o6, o7] [] ((119, a, b), zx_pk (zK L) 119, σ, τ, zR) = some (some (.int r), ((119, a, b), zx_pk (zK L) 119, σ, τ, zR)) := by
  intro n
  induction n with
  | zero =>
    intro _ _ _ _ _ _ _ _ _ _ H
    cases H
  | succ n ih =>
    intro σ τ v1 v3 v4 v5 o2 o6 o7 r H
    rw [zb_Judge_spread_6] at H
    rw [zs_iload (ls := [some (.ref 76), some (.int v1), o2, some (.int v3), some (.int v4), some (.int v5), o6, o7]) zd_234_6 rfl]
    rw [zs_bipush (z := 24) zd_234_8 (by decide)]
    by_cases c1 : 24 ≤ v5
    · rw [if_pos c1] at H
      rw [zp_icmp_ge_t (x := v5) (y := 24) (t := 75) zd_234_10 rfl c1]
      rw [zs_iload (ls := [some (.ref 76), some (.int v1), o2, some (.int v3), some (.int v4), some (.int v5), o6, o7]) zd_234_75 rfl]
      have H := Option.some.inj H
      subst H
      exact zs_ireturn zd_234_77 rfl
    · rw [if_neg c1] at H
      rw [zp_icmp_ge_f (x := v5) (y := 24) (t := 75) zd_234_10 rfl c1]
      rw [zs_iload (ls := [some (.ref 76), some (.int v1), o2, some (.int v3), some (.int v4), some (.int v5), o6, o7]) zd_234_13 rfl]
      rw [zs_istore (x := v4) (ls' := [some (.ref 76), some (.int v1), o2, some (.int v3), some (.int v4), some (.int v5), some (.int v4), o7]) zd_234_15 (Nat.le_of_ble_eq_true rfl) rfl]
      rw [zs_iconst (z := 0) zd_234_17 (by decide)]
      rw [zs_istore (x := 0) (ls' := [some (.ref 76), some (.int v1), o2, some (.int v3), some (.int v4), some (.int v5), some (.int v4), some (.int 0)]) zd_234_18 (Nat.le_of_ble_eq_true rfl) rfl]
      exact zt_Judge_spread_20 (hk6 := ih) H
set_option maxRecDepth 20000 in
theorem zt_Judge_spread {a b L N : Nat} {σ : zS} {τ : zT} {x1 : Int32} {x2 : Int32} {x3 : Int32} {r : Int32} (H : zf_Judge_spread N σ x1 x2 x3 = some r) : zx_go 2 234 0 [some (.ref 76), some (.int x1), some (.int x2), some (.int x3), none, none, none, none] [] ((119, a, b), zx_pk (zK L) 119, σ, τ, zR) = some (some (.int r), ((119, a, b), zx_pk (zK L) 119, σ, τ, zR)) := by
  unfold zf_Judge_spread at H
  rw [zs_iload_n (ls := [some (.ref 76), some (.int x1), some (.int x2), some (.int x3), none, none, none, none]) zd_234_0 rfl]
  rw [zs_istore (x := x2) (ls' := [some (.ref 76), some (.int x1), some (.int x2), some (.int x3), some (.int x2), none, none, none]) zd_234_1 (Nat.le_of_ble_eq_true rfl) rfl]
  rw [zs_iconst (z := 0) zd_234_3 (by decide)]
  rw [zs_istore (x := 0) (ls' := [some (.ref 76), some (.int x1), some (.int x2), some (.int x3), some (.int x2), some (.int 0), none, none]) zd_234_4 (Nat.le_of_ble_eq_true rfl) rfl]
  exact zt_Judge_spread_6  H
set_option maxRecDepth 20000 in
theorem zt_Judge_stepsAfter_31 {a b L N : Nat} {k5 : zS → Int32 → Int32 → Int32 → Int32 → Option (Int32)} (hk5 : ∀ {σ : zS} {τ : zT} {v1 : Int32} {v2 : Int32} {v3 : Int32} {v4 : Int32} {r : Int32}, k5 σ v1 v2 v3 v4 = some r → zx_go 3 236 5 [some (.ref 76), some (.int v1), some (.int v2), some (.int v3), some (.int v4)] [] ((119, a, b), zx_pk (zK L) 119, σ, τ, zR) = some (some (.int r), ((119, a, b), zx_pk (zK L) 119, σ, τ, zR))) {σ : zS} {τ : zT} {v1 : Int32} {v2 : Int32} {v3 : Int32} {v4 : Int32} {r : Int32} (H : zb_Judge_stepsAfter_31 k5 N σ v1 v2 v3 v4 = some r) : zx_go 3 236 31 [some (.ref 76), some (.int v1), some (.int v2), some (.int v3), some (.int v4)] [] ((119, a, b), zx_pk (zK L) 119, σ, τ, zR) = some (some (.int r), ((119, a, b), zx_pk (zK L) 119, σ, τ, zR)) := by
  unfold zb_Judge_stepsAfter_31 at H
  rw [zs_iinc (ls := [some (.ref 76), some (.int v1), some (.int v2), some (.int v3), some (.int v4)]) (x := v4) (z := (v4 + 1)) (ls' := [some (.ref 76), some (.int v1), some (.int v2), some (.int v3), some (.int (v4 + 1))]) zd_236_31 rfl rfl rfl]
  rw [zs_goto (t := 5) zd_236_34 rfl]
  exact hk5 H
set_option maxRecDepth 20000 in
theorem zt_Judge_stepsAfter_5 {a b L N : Nat} : ∀ {n : Nat} {σ : zS} {τ : zT} {v1 : Int32} {v2 : Int32} {v3 : Int32} {v4 : Int32} {r : Int32}, zb_Judge_stepsAfter_5 N n σ v1 v2 v3 v4 = some r → zx_go 3 236 5 [some (.ref 76), some (.int v1), some (.int v2), some (.int v3), some (.int v4)] [] ((119, a, b), zx_pk (zK L) 119, σ, τ, zR) = some (some (.int r), ((119, a, b), zx_pk (zK L) 119, σ, τ, zR)) := by
  intro n
  induction n with
  | zero =>
    intro _ _ _ _ _ _ _ H
    cases H
  | succ n ih =>
    intro σ τ v1 v2 v3 v4 r H
    rw [zb_Judge_stepsAfter_5] at H
    rw [zs_iload (ls := [some (.ref 76), some (.int v1), some (.int v2), some (.int v3), some (.int v4)]) zd_236_5 rfl]
    rw [zs_bipush (z := 24) zd_236_7 (by decide)]
    by_cases c1 : 24 ≤ v4
    · rw [if_pos c1] at H
      rw [zp_icmp_ge_t (x := v4) (y := 24) (t := 37) zd_236_9 rfl c1]
      rw [zs_aload_n (ls := [some (.ref 76), some (.int v1), some (.int v2), some (.int v3), some (.int v4)]) zd_236_37 rfl]
      rw [zs_iload_n (ls := [some (.ref 76), some (.int v1), some (.int v2), some (.int v3), some (.int v4)]) zd_236_38 rfl]
      rw [zs_iload_n (ls := [some (.ref 76), some (.int v1), some (.int v2), some (.int v3), some (.int v4)]) zd_236_39 rfl]
      rw [zs_iconst (z := 0) zd_236_40 (by decide)]
      obtain ⟨r2, hr2, H⟩ := Option.bind_eq_some_iff.mp H
      rw [zp_callVi (x := r2) (st := [.int 0, .int v3, .int v1, .ref 76]) (as := [.ref 76, .int v1, .int v3, .int 0]) (rest := []) (e := 2) zd_236_41 rfl (by decide +kernel) (by decide) rfl rfl (Nat.le_of_ble_eq_true rfl) (zx_rcb_ok rfl (show 76 < 119 by decide)) (Nat.le_of_ble_eq_true rfl) rfl (by decide) (zt_Judge_spread hr2)]
      have H := Option.some.inj H
      subst H
      exact zs_ireturn zd_236_44 rfl
    · rw [if_neg c1] at H
      rw [zp_icmp_ge_f (x := v4) (y := 24) (t := 37) zd_236_9 rfl c1]
      rw [zs_iload_n (ls := [some (.ref 76), some (.int v1), some (.int v2), some (.int v3), some (.int v4)]) zd_236_12 rfl]
      rw [zs_iload (ls := [some (.ref 76), some (.int v1), some (.int v2), some (.int v3), some (.int v4)]) zd_236_13 rfl]
      rw [zp_iushr (x := v2) (y := v4) (z := (zJ_ushr v2 v4)) zd_236_15 rfl]
      rw [zs_iconst (z := 1) zd_236_16 (by decide)]
      rw [zp_iand (x := (zJ_ushr v2 v4)) (y := 1) (z := ((zJ_ushr v2 v4) &&& 1)) zd_236_17 rfl]
      by_cases c3 : ((zJ_ushr v2 v4) &&& 1) = 0
      · rw [if_pos c3] at H
        rw [zp_if_eq_t (x := ((zJ_ushr v2 v4) &&& 1)) (t := 31) zd_236_18 rfl c3]
        exact zt_Judge_stepsAfter_31 (hk5 := ih) H
      · rw [if_neg c3] at H
        rw [zp_if_eq_f (x := ((zJ_ushr v2 v4) &&& 1)) (t := 31) zd_236_18 rfl c3]
        rw [zs_iload_n (ls := [some (.ref 76), some (.int v1), some (.int v2), some (.int v3), some (.int v4)]) zd_236_21 rfl]
        rw [zs_aload_n (ls := [some (.ref 76), some (.int v1), some (.int v2), some (.int v3), some (.int v4)]) zd_236_22 rfl]
        rw [zs_iload_n (ls := [some (.ref 76), some (.int v1), some (.int v2), some (.int v3), some (.int v4)]) zd_236_23 rfl]
        rw [zs_iload (ls := [some (.ref 76), some (.int v1), some (.int v2), some (.int v3), some (.int v4)]) zd_236_24 rfl]
        obtain ⟨r4, hr4, H⟩ := Option.bind_eq_some_iff.mp H
        rw [zp_callVi (x := r4) (st := [.int v4, .int v1, .ref 76, .int v3]) (as := [.ref 76, .int v1, .int v4]) (rest := [.int v3]) (e := 1) zd_236_26 rfl (by decide +kernel) (by decide) rfl rfl (Nat.le_of_ble_eq_true rfl) (zx_rcb_ok rfl (show 76 < 119 by decide)) (Nat.le_of_ble_eq_true rfl) rfl (by decide) (zt_Judge_behind hr4)]
        rw [zp_ior (x := v3) (y := r4) (z := (v3 ||| r4)) zd_236_29 rfl]
        rw [zs_istore_n (x := (v3 ||| r4)) (ls' := [some (.ref 76), some (.int v1), some (.int v2), some (.int (v3 ||| r4)), some (.int v4)]) zd_236_30 (Nat.le_of_ble_eq_true rfl) rfl]
        exact zt_Judge_stepsAfter_31 (hk5 := ih) H
