/-! theorems of the functions, by program -/
set_option maxRecDepth 20000 in
theorem zt_M_byteAt {a b L : Nat} {σ : zS} {τ : zT} {x1 : Int32} {r : Int32} (H : zf_M_byteAt σ x1 = some r) : zx_go 0 87 0 [some (.ref 82), some (.int x1)] [] ((119, a, b), zx_pk (zK L) 119, σ, τ, zR) = some (some (.int r), ((119, a, b), zx_pk (zK L) 119, σ, τ, zR)) := by
  unfold zf_M_byteAt at H
  rw [zs_iload_n (ls := [some (.ref 82), some (.int x1)]) zd_87_0 rfl]
  rw [zs_aload_n (ls := [some (.ref 82), some (.int x1)]) zd_87_1 rfl]
  rw [zp_getI (n := 119) (K := zx_pk (zK L) 119) (σ := σ) (c := 12) (k := 4) (q := 82) (v := (σ 82 4)) zd_87_2 rfl rfl rfl (by decide) rfl]
  by_cases c1 : (σ 82 4) ≤ x1
  · rw [if_pos c1] at H
    rw [zp_icmp_ge_t (x := x1) (y := (σ 82 4)) (t := 21) zd_87_5 rfl c1]
    rw [zs_iconst (z := 0) zd_87_21 (by decide)]
    have H := Option.some.inj H
    subst H
    exact zs_ireturn zd_87_22 (by decide +kernel)
  · rw [if_neg c1] at H
    rw [zp_icmp_ge_f (x := x1) (y := (σ 82 4)) (t := 21) zd_87_5 rfl c1]
    rw [zs_aload_n (ls := [some (.ref 82), some (.int x1)]) zd_87_8 rfl]
    rw [zs_getR (n := 119) (K := zx_pk (zK L) 119) (ρ := zR) (c := 12) (k := 3) (q := 82) (p := 84) zd_87_9 rfl rfl rfl (by decide) rfl]
    rw [zs_iload_n (ls := [some (.ref 82), some (.int x1)]) zd_87_12 rfl]
    by_cases c2 : 0 ≤ x1 ∧ x1 < 1500
    · rw [if_pos c2] at H
      rw [zp_baload (n := 119) (K := zx_pk (zK L) 119) (σ := σ) (q := 84) (m := 1500) (i := x1) (k := x1.toNatClampNeg) (v := (σ 84 x1.toNatClampNeg)) zd_87_13 rfl (by decide) (zJ_in c2 rfl) rfl rfl]
      rw [zs_sipush (z := 255) zd_87_14 (by decide)]
      rw [zp_iand (x := (σ 84 x1.toNatClampNeg)) (y := 255) (z := ((σ 84 x1.toNatClampNeg) &&& 255)) zd_87_17 rfl]
      rw [zs_goto (t := 22) zd_87_18 rfl]
      have H := Option.some.inj H
      subst H
      exact zs_ireturn zd_87_22 rfl
    · rw [if_neg c2] at H
      cases H
set_option maxRecDepth 20000 in
theorem zt_M_isLetter {a b L : Nat} {σ : zS} {τ : zT} {x1 : Int32} {r : Int32} (H : zf_M_isLetter σ x1 = some r) : zx_go 1 88 0 [some (.int x1)] [] ((119, a, b), zx_pk (zK L) 119, σ, τ, zR) = some (some (.int r), ((119, a, b), zx_pk (zK L) 119, σ, τ, zR)) := by
  unfold zf_M_isLetter at H
  rw [zs_iload_n (ls := [some (.int x1)]) zd_88_0 rfl]
  rw [zs_bipush (z := 97) zd_88_1 (by decide)]
  rw [zs_bipush (z := 122) zd_88_3 (by decide)]
  obtain ⟨r1, hr1, H⟩ := Option.bind_eq_some_iff.mp H
  rw [zp_callSi (x := r1) (st := [.int 122, .int 97, .int x1]) (as := [.int x1, .int 97, .int 122]) (rest := []) (e := 0) zd_88_5 rfl (by decide +kernel) (by decide) rfl rfl (Nat.le_of_ble_eq_true rfl) rfl (Nat.le_of_ble_eq_true rfl) rfl (by decide) (zt_M_in hr1)]
  by_cases c2 : r1 = 0 ∨ r1 = 1
  · rw [if_pos c2] at H
    have H := Option.some.inj H
    subst H
    exact zs_ireturn zd_88_8 (zJ_bt c2)
  · rw [if_neg c2] at H
    cases H
set_option maxRecDepth 20000 in
theorem zt_M_isDigit {a b L : Nat} {σ : zS} {τ : zT} {x1 : Int32} {r : Int32} (H : zf_M_isDigit σ x1 = some r) : zx_go 1 89 0 [some (.int x1)] [] ((119, a, b), zx_pk (zK L) 119, σ, τ, zR) = some (some (.int r), ((119, a, b), zx_pk (zK L) 119, σ, τ, zR)) := by
  unfold zf_M_isDigit at H
  rw [zs_iload_n (ls := [some (.int x1)]) zd_89_0 rfl]
  rw [zs_bipush (z := 48) zd_89_1 (by decide)]
  rw [zs_bipush (z := 57) zd_89_3 (by decide)]
  obtain ⟨r1, hr1, H⟩ := Option.bind_eq_some_iff.mp H
  rw [zp_callSi (x := r1) (st := [.int 57, .int 48, .int x1]) (as := [.int x1, .int 48, .int 57]) (rest := []) (e := 0) zd_89_5 rfl (by decide +kernel) (by decide) rfl rfl (Nat.le_of_ble_eq_true rfl) rfl (Nat.le_of_ble_eq_true rfl) rfl (by decide) (zt_M_in hr1)]
  by_cases c2 : r1 = 0 ∨ r1 = 1
  · rw [if_pos c2] at H
    have H := Option.some.inj H
    subst H
    exact zs_ireturn zd_89_8 (zJ_bt c2)
  · rw [if_neg c2] at H
    cases H
set_option maxRecDepth 20000 in
theorem zt_M_wordHere_4 {a b L N : Nat} : ∀ {n : Nat} {σ : zS} {τ : zT} {v1 : Int64} {v3 : Int32} {o2 : Option Value} {r : Int32}, zb_M_wordHere_4 N n σ v1 v3 = some r → zx_go 1 90 4 [some (.ref 82), some (.long v1), o2, some (.int v3)] [] ((119, a, b), zx_pk (zK L) 119, σ, τ, zR) = some (some (.int r), ((119, a, b), zx_pk (zK L) 119, σ, τ, zR)) := by
  intro n
  induction n with
  | zero =>
    intro _ _ _ _ _ _ H
    cases H
  | succ n ih =>
    intro σ τ v1 v3 o2 r H
    rw [zb_M_wordHere_4] at H
    rw [zs_iload_n (ls := [some (.ref 82), some (.long v1), o2, some (.int v3)]) zd_90_4 rfl]
    rw [zs_aload_n (ls := [some (.ref 82), some (.long v1), o2, some (.int v3)]) zd_90_5 rfl]
    rw [zp_getI (n := 119) (K := zx_pk (zK L) 119) (σ := σ) (c := 12) (k := 6) (q := 82) (v := (σ 82 6)) zd_90_6 rfl rfl rfl (by decide) rfl]
    by_cases c1 : (σ 82 6) ≤ v3
    · rw [if_pos c1] at H
      rw [zp_icmp_ge_t (x := v3) (y := (σ 82 6)) (t := 35) zd_90_9 rfl c1]
      rw [zs_lload_n (ls := [some (.ref 82), some (.long v1), o2, some (.int v3)]) zd_90_35 rfl]
      rw [zs_ldc2 (x := 439854918756) zd_90_36 rfl]
      rw [zp_lcmp (x := v1) (y := 439854918756) (z := (lg_cmp v1 439854918756)) zd_90_39 rfl]
      by_cases c2 : ¬ v1 = 439854918756
      · rw [if_pos c2] at H
        rw [zp_if_ne_t (x := (lg_cmp v1 439854918756)) (t := 45) zd_90_40 rfl (fun q => c2 (zJ_lc.mpr q))]
        rw [zs_lload_n (ls := [some (.ref 82), some (.long v1), o2, some (.int v3)]) zd_90_45 rfl]
        rw [zs_ldc2 (x := 1869636974) zd_90_46 rfl]
        rw [zp_lcmp (x := v1) (y := 1869636974) (z := (lg_cmp v1 1869636974)) zd_90_49 rfl]
        by_cases c3 : ¬ v1 = 1869636974
        · rw [if_pos c3] at H
          rw [zp_if_ne_t (x := (lg_cmp v1 1869636974)) (t := 55) zd_90_50 rfl (fun q => c3 (zJ_lc.mpr q))]
          rw [zs_lload_n (ls := [some (.ref 82), some (.long v1), o2, some (.int v3)]) zd_90_55 rfl]
          rw [zs_ldc2 (x := 1819239275) zd_90_56 rfl]
          rw [zp_lcmp (x := v1) (y := 1819239275) (z := (lg_cmp v1 1819239275)) zd_90_59 rfl]
          by_cases c4 : ¬ v1 = 1819239275
          · rw [if_pos c4] at H
            rw [zp_if_ne_t (x := (lg_cmp v1 1819239275)) (t := 65) zd_90_60 rfl (fun q => c4 (zJ_lc.mpr q))]
            rw [zs_lload_n (ls := [some (.ref 82), some (.long v1), o2, some (.int v3)]) zd_90_65 rfl]
            rw [zs_ldc2 (x := 127991944667492) zd_90_66 rfl]
            rw [zp_lcmp (x := v1) (y := 127991944667492) (z := (lg_cmp v1 127991944667492)) zd_90_69 rfl]
            by_cases c5 : ¬ v1 = 127991944667492
            · rw [if_pos c5] at H
              rw [zp_if_ne_t (x := (lg_cmp v1 127991944667492)) (t := 75) zd_90_70 rfl (fun q => c5 (zJ_lc.mpr q))]
              rw [zs_lload_n (ls := [some (.ref 82), some (.long v1), o2, some (.int v3)]) zd_90_75 rfl]
              rw [zs_ldc2 (x := 26982) zd_90_76 rfl]
              rw [zp_lcmp (x := v1) (y := 26982) (z := (lg_cmp v1 26982)) zd_90_79 rfl]
              by_cases c6 : ¬ v1 = 26982
              · rw [if_pos c6] at H
                rw [zp_if_ne_t (x := (lg_cmp v1 26982)) (t := 85) zd_90_80 rfl (fun q => c6 (zJ_lc.mpr q))]
                rw [zs_lload_n (ls := [some (.ref 82), some (.long v1), o2, some (.int v3)]) zd_90_85 rfl]
                rw [zs_ldc2 (x := 1701606245) zd_90_86 rfl]
                rw [zp_lcmp (x := v1) (y := 1701606245) (z := (lg_cmp v1 1701606245)) zd_90_89 rfl]
                by_cases c7 : ¬ v1 = 1701606245
                · rw [if_pos c7] at H
                  rw [zp_if_ne_t (x := (lg_cmp v1 1701606245)) (t := 96) zd_90_90 rfl (fun q => c7 (zJ_lc.mpr q))]
                  rw [zs_lload_n (ls := [some (.ref 82), some (.long v1), o2, some (.int v3)]) zd_90_96 rfl]
                  rw [zs_ldc2 (x := 512852847717) zd_90_97 rfl]
                  rw [zp_lcmp (x := v1) (y := 512852847717) (z := (lg_cmp v1 512852847717)) zd_90_100 rfl]
                  by_cases c8 : ¬ v1 = 512852847717
                  · rw [if_pos c8] at H
                    rw [zp_if_ne_t (x := (lg_cmp v1 512852847717)) (t := 107) zd_90_101 rfl (fun q => c8 (zJ_lc.mpr q))]
                    rw [zs_lload_n (ls := [some (.ref 82), some (.long v1), o2, some (.int v3)]) zd_90_107 rfl]
                    rw [zs_ldc2 (x := 2002872692) zd_90_108 rfl]
                    rw [zp_lcmp (x := v1) (y := 2002872692) (z := (lg_cmp v1 2002872692)) zd_90_111 rfl]
                    by_cases c9 : ¬ v1 = 2002872692
                    · rw [if_pos c9] at H
                      rw [zp_if_ne_t (x := (lg_cmp v1 2002872692)) (t := 118) zd_90_112 rfl (fun q => c9 (zJ_lc.mpr q))]
                      rw [zs_lload_n (ls := [some (.ref 82), some (.long v1), o2, some (.int v3)]) zd_90_118 rfl]
                      rw [zs_ldc2 (x := 2002873189) zd_90_119 rfl]
                      rw [zp_lcmp (x := v1) (y := 2002873189) (z := (lg_cmp v1 2002873189)) zd_90_122 rfl]
                      by_cases c10 : ¬ v1 = 2002873189
                      · rw [if_pos c10] at H
                        rw [zp_if_ne_t (x := (lg_cmp v1 2002873189)) (t := 129) zd_90_123 rfl (fun q => c10 (zJ_lc.mpr q))]
                        rw [zs_lload_n (ls := [some (.ref 82), some (.long v1), o2, some (.int v3)]) zd_90_129 rfl]
                        rw [zs_ldc2 (x := 6384748) zd_90_130 rfl]
                        rw [zp_lcmp (x := v1) (y := 6384748) (z := (lg_cmp v1 6384748)) zd_90_133 rfl]
                        by_cases c11 : ¬ v1 = 6384748
                        · rw [if_pos c11] at H
                          rw [zp_if_ne_t (x := (lg_cmp v1 6384748)) (t := 140) zd_90_134 rfl (fun q => c11 (zJ_lc.mpr q))]
                          rw [zs_lload_n (ls := [some (.ref 82), some (.long v1), o2, some (.int v3)]) zd_90_140 rfl]
                          rw [zs_ldc2 (x := 495873782388) zd_90_141 rfl]
                          rw [zp_lcmp (x := v1) (y := 495873782388) (z := (lg_cmp v1 495873782388)) zd_90_144 rfl]
                          by_cases c12 : ¬ v1 = 495873782388
                          · rw [if_pos c12] at H
                            rw [zp_if_ne_t (x := (lg_cmp v1 495873782388)) (t := 151) zd_90_145 rfl (fun q => c12 (zJ_lc.mpr q))]
                            rw [zs_lload_n (ls := [some (.ref 82), some (.long v1), o2, some (.int v3)]) zd_90_151 rfl]
                            rw [zs_ldc2 (x := 1785686382) zd_90_152 rfl]
                            rw [zp_lcmp (x := v1) (y := 1785686382) (z := (lg_cmp v1 1785686382)) zd_90_155 rfl]
                            by_cases c13 : ¬ v1 = 1785686382
                            · rw [if_pos c13] at H
                              rw [zp_if_ne_t (x := (lg_cmp v1 1785686382)) (t := 162) zd_90_156 rfl (fun q => c13 (zJ_lc.mpr q))]
                              rw [zs_lload_n (ls := [some (.ref 82), some (.long v1), o2, some (.int v3)]) zd_90_162 rfl]
                              rw [zs_ldc2 (x := 426953237355) zd_90_163 rfl]
                              rw [zp_lcmp (x := v1) (y := 426953237355) (z := (lg_cmp v1 426953237355)) zd_90_166 rfl]
                              by_cases c14 : ¬ v1 = 426953237355
                              · rw [if_pos c14] at H
                                rw [zp_if_ne_t (x := (lg_cmp v1 426953237355)) (t := 173) zd_90_167 rfl (fun q => c14 (zJ_lc.mpr q))]
                                rw [zs_lload_n (ls := [some (.ref 82), some (.long v1), o2, some (.int v3)]) zd_90_173 rfl]
                                rw [zs_ldc2 (x := 1937010544) zd_90_174 rfl]
                                rw [zp_lcmp (x := v1) (y := 1937010544) (z := (lg_cmp v1 1937010544)) zd_90_177 rfl]
                                by_cases c15 : ¬ v1 = 1937010544
                                · rw [if_pos c15] at H
                                  rw [zp_if_ne_t (x := (lg_cmp v1 1937010544)) (t := 184) zd_90_178 rfl (fun q => c15 (zJ_lc.mpr q))]
                                  rw [zs_lload_n (ls := [some (.ref 82), some (.long v1), o2, some (.int v3)]) zd_90_184 rfl]
                                  rw [zs_ldc2 (x := 1936744814) zd_90_185 rfl]
                                  rw [zp_lcmp (x := v1) (y := 1936744814) (z := (lg_cmp v1 1936744814)) zd_90_188 rfl]
                                  by_cases c16 : ¬ v1 = 1936744814
                                  · rw [if_pos c16] at H
                                    rw [zp_if_ne_t (x := (lg_cmp v1 1936744814)) (t := 195) zd_90_189 rfl (fun q => c16 (zJ_lc.mpr q))]
                                    rw [zs_iconst (z := 0) zd_90_195 (by decide)]
                                    have H := Option.some.inj H
                                    subst H
                                    exact zs_ireturn zd_90_196 (by decide +kernel)
                                  · rw [if_neg c16] at H
                                    rw [zp_if_ne_f (x := (lg_cmp v1 1936744814)) (t := 195) zd_90_189 rfl (fun q => c16 (fun q2 => q (zJ_lc.mp q2)))]
                                    rw [zs_bipush (z := 15) zd_90_192 (by decide)]
                                    have H := Option.some.inj H
                                    subst H
                                    exact zs_ireturn zd_90_194 (by decide +kernel)
                                · rw [if_neg c15] at H
                                  rw [zp_if_ne_f (x := (lg_cmp v1 1937010544)) (t := 184) zd_90_178 rfl (fun q => c15 (fun q2 => q (zJ_lc.mp q2)))]
                                  rw [zs_bipush (z := 14) zd_90_181 (by decide)]
                                  have H := Option.some.inj H
                                  subst H
                                  exact zs_ireturn zd_90_183 (by decide +kernel)
                              · rw [if_neg c14] at H
                                rw [zp_if_ne_f (x := (lg_cmp v1 426953237355)) (t := 173) zd_90_167 rfl (fun q => c14 (fun q2 => q (zJ_lc.mp q2)))]
                                rw [zs_bipush (z := 13) zd_90_170 (by decide)]
                                have H := Option.some.inj H
                                subst H
                                exact zs_ireturn zd_90_172 (by decide +kernel)
                            · rw [if_neg c13] at H
                              rw [zp_if_ne_f (x := (lg_cmp v1 1785686382)) (t := 162) zd_90_156 rfl (fun q => c13 (fun q2 => q (zJ_lc.mp q2)))]
                              rw [zs_bipush (z := 12) zd_90_159 (by decide)]
                              have H := Option.some.inj H
                              subst H
                              exact zs_ireturn zd_90_161 (by decide +kernel)
                          · rw [if_neg c12] at H
                            rw [zp_if_ne_f (x := (lg_cmp v1 495873782388)) (t := 151) zd_90_145 rfl (fun q => c12 (fun q2 => q (zJ_lc.mp q2)))]
                            rw [zs_bipush (z := 11) zd_90_148 (by decide)]
                            have H := Option.some.inj H
                            subst H
                            exact zs_ireturn zd_90_150 (by decide +kernel)
                        · rw [if_neg c11] at H
                          rw [zp_if_ne_f (x := (lg_cmp v1 6384748)) (t := 140) zd_90_134 rfl (fun q => c11 (fun q2 => q (zJ_lc.mp q2)))]
                          rw [zs_bipush (z := 10) zd_90_137 (by decide)]
                          have H := Option.some.inj H
                          subst H
                          exact zs_ireturn zd_90_139 (by decide +kernel)
                      · rw [if_neg c10] at H
                        rw [zp_if_ne_f (x := (lg_cmp v1 2002873189)) (t := 129) zd_90_123 rfl (fun q => c10 (fun q2 => q (zJ_lc.mp q2)))]
                        rw [zs_bipush (z := 9) zd_90_126 (by decide)]
                        have H := Option.some.inj H
                        subst H
                        exact zs_ireturn zd_90_128 (by decide +kernel)
                    · rw [if_neg c9] at H
                      rw [zp_if_ne_f (x := (lg_cmp v1 2002872692)) (t := 118) zd_90_112 rfl (fun q => c9 (fun q2 => q (zJ_lc.mp q2)))]
                      rw [zs_bipush (z := 8) zd_90_115 (by decide)]
                      have H := Option.some.inj H
                      subst H
                      exact zs_ireturn zd_90_117 (by decide +kernel)
                  · rw [if_neg c8] at H
                    rw [zp_if_ne_f (x := (lg_cmp v1 512852847717)) (t := 107) zd_90_101 rfl (fun q => c8 (fun q2 => q (zJ_lc.mp q2)))]
                    rw [zs_bipush (z := 7) zd_90_104 (by decide)]
                    have H := Option.some.inj H
                    subst H
                    exact zs_ireturn zd_90_106 (by decide +kernel)
                · rw [if_neg c7] at H
                  rw [zp_if_ne_f (x := (lg_cmp v1 1701606245)) (t := 96) zd_90_90 rfl (fun q => c7 (fun q2 => q (zJ_lc.mp q2)))]
                  rw [zs_bipush (z := 6) zd_90_93 (by decide)]
                  have H := Option.some.inj H
                  subst H
                  exact zs_ireturn zd_90_95 (by decide +kernel)
              · rw [if_neg c6] at H
                rw [zp_if_ne_f (x := (lg_cmp v1 26982)) (t := 85) zd_90_80 rfl (fun q => c6 (fun q2 => q (zJ_lc.mp q2)))]
                rw [zs_iconst (z := 5) zd_90_83 (by decide)]
                have H := Option.some.inj H
                subst H
                exact zs_ireturn zd_90_84 (by decide +kernel)
            · rw [if_neg c5] at H
              rw [zp_if_ne_f (x := (lg_cmp v1 127991944667492)) (t := 75) zd_90_70 rfl (fun q => c5 (fun q2 => q (zJ_lc.mp q2)))]
              rw [zs_iconst (z := 4) zd_90_73 (by decide)]
              have H := Option.some.inj H
              subst H
              exact zs_ireturn zd_90_74 (by decide +kernel)
          · rw [if_neg c4] at H
            rw [zp_if_ne_f (x := (lg_cmp v1 1819239275)) (t := 65) zd_90_60 rfl (fun q => c4 (fun q2 => q (zJ_lc.mp q2)))]
            rw [zs_iconst (z := 3) zd_90_63 (by decide)]
            have H := Option.some.inj H
            subst H
            exact zs_ireturn zd_90_64 (by decide +kernel)
        · rw [if_neg c3] at H
          rw [zp_if_ne_f (x := (lg_cmp v1 1869636974)) (t := 55) zd_90_50 rfl (fun q => c3 (fun q2 => q (zJ_lc.mp q2)))]
          rw [zs_iconst (z := 2) zd_90_53 (by decide)]
          have H := Option.some.inj H
          subst H
          exact zs_ireturn zd_90_54 (by decide +kernel)
      · rw [if_neg c2] at H
        rw [zp_if_ne_f (x := (lg_cmp v1 439854918756)) (t := 45) zd_90_40 rfl (fun q => c2 (fun q2 => q (zJ_lc.mp q2)))]
        rw [zs_iconst (z := 1) zd_90_43 (by decide)]
        have H := Option.some.inj H
        subst H
        exact zs_ireturn zd_90_44 (by decide +kernel)
    · rw [if_neg c1] at H
      rw [zp_icmp_ge_f (x := v3) (y := (σ 82 6)) (t := 35) zd_90_9 rfl c1]
      rw [zs_lload_n (ls := [some (.ref 82), some (.long v1), o2, some (.int v3)]) zd_90_12 rfl]
      rw [zs_bipush (z := 8) zd_90_13 (by decide)]
      rw [zp_lshl (x := v1) (y := 8) (z := (zJ_lshl v1 8)) zd_90_15 rfl]
      rw [zs_aload_n (ls := [some (.ref 82), some (.long v1), o2, some (.int v3)]) zd_90_16 rfl]
      rw [zs_aload_n (ls := [some (.ref 82), some (.long v1), o2, some (.int v3)]) zd_90_17 rfl]
      rw [zp_getI (n := 119) (K := zx_pk (zK L) 119) (σ := σ) (c := 12) (k := 5) (q := 82) (v := (σ 82 5)) zd_90_18 rfl rfl rfl (by decide) rfl]
      rw [zs_iload_n (ls := [some (.ref 82), some (.long v1), o2, some (.int v3)]) zd_90_21 rfl]
      rw [zp_iadd (x := (σ 82 5)) (y := v3) (z := ((σ 82 5) + v3)) zd_90_22 rfl]
      obtain ⟨r17, hr17, H⟩ := Option.bind_eq_some_iff.mp H
      rw [zp_callVi (x := r17) (st := [.int ((σ 82 5) + v3), .ref 82, .long (zJ_lshl v1 8)]) (as := [.ref 82, .int ((σ 82 5) + v3)]) (rest := [.long (zJ_lshl v1 8)]) (e := 0) zd_90_23 rfl (by decide +kernel) (by decide) rfl rfl (Nat.le_of_ble_eq_true rfl) (zx_rcb_ok rfl (show 82 < 119 by decide)) (Nat.le_of_ble_eq_true rfl) rfl (by decide) (zt_M_byteAt hr17)]
      rw [zp_i2l (x := r17) (z := (r17 : Int32).toInt64) zd_90_26 rfl]
      rw [zp_lor (x := (zJ_lshl v1 8)) (y := (r17 : Int32).toInt64) (z := ((zJ_lshl v1 8) ||| (r17 : Int32).toInt64)) zd_90_27 rfl]
      rw [zs_lstore_n (x := ((zJ_lshl v1 8) ||| (r17 : Int32).toInt64)) (ls' := [some (.ref 82), some (.long ((zJ_lshl v1 8) ||| (r17 : Int32).toInt64)), none, some (.int v3)]) zd_90_28 (Nat.le_of_ble_eq_true rfl) rfl]
      rw [zs_iinc (ls := [some (.ref 82), some (.long ((zJ_lshl v1 8) ||| (r17 : Int32).toInt64)), none, some (.int v3)]) (x := v3) (z := (v3 + 1)) (ls' := [some (.ref 82), some (.long ((zJ_lshl v1 8) ||| (r17 : Int32).toInt64)), none, some (.int (v3 + 1))]) zd_90_29 rfl rfl rfl]
      rw [zs_goto (t := 4) zd_90_32 rfl]
      exact ih H
set_option maxRecDepth 20000 in
theorem zt_M_wordHere {a b L N : Nat} {σ : zS} {τ : zT} {r : Int32} (H : zf_M_wordHere N σ = some r) : zx_go 1 90 0 [some (.ref 82), none, none, none] [] ((119, a, b), zx_pk (zK L) 119, σ, τ, zR) = some (some (.int r), ((119, a, b), zx_pk (zK L) 119, σ, τ, zR)) := by
  unfold zf_M_wordHere at H
  rw [zs_lconst (z := 0) zd_90_0 (by decide)]
  rw [zs_lstore_n (x := 0) (ls' := [some (.ref 82), some (.long 0), none, none]) zd_90_1 (Nat.le_of_ble_eq_true rfl) rfl]
  rw [zs_iconst (z := 0) zd_90_2 (by decide)]
  rw [zs_istore_n (x := 0) (ls' := [some (.ref 82), some (.long 0), none, some (.int 0)]) zd_90_3 (Nat.le_of_ble_eq_true rfl) rfl]
  exact zt_M_wordHere_4  H
set_option maxRecDepth 20000 in
theorem zt_M_next_361 {a b L N : Nat} {σ : zS} {τ : zT} {v2 : Int32} {s0 : Int32} {o1 : Option Value} {o3 : Option Value} {o4 : Option Value} {r : zS} (H : zb_M_next_361 N σ v2 s0 = some r) : zx_go 2 86 361 [some (.ref 82), o1, some (.int v2), o3, o4] [.int s0, .ref 82] ((119, a, b), zx_pk (zK L) 119, σ, τ, zR) = some (none, ((119, a, b), zx_pk (zK L) 119, r, τ, zR)) := by
  unfold zb_M_next_361 at H
  rw [zs_putI (n := 119) (K := zx_pk (zK L) 119) (c := 12) (k := 7) (q := 82) (x := s0) zd_86_361 rfl rfl (by decide +kernel) rfl (by decide)]
  rw [zs_aload_n (ls := [some (.ref 82), o1, some (.int v2), o3, o4]) zd_86_364 rfl]
  rw [zs_iload_n (ls := [some (.ref 82), o1, some (.int v2), o3, o4]) zd_86_365 rfl]
  rw [zs_putI (n := 119) (K := zx_pk (zK L) 119) (c := 12) (k := 8) (q := 82) (x := v2) zd_86_366 rfl rfl (by decide +kernel) rfl (by decide)]
  have H := Option.some.inj H
  subst H
  exact zs_return zd_86_369 (by decide +kernel)
set_option maxRecDepth 20000 in
theorem zt_M_next_348 {a b L N : Nat} {σ : zS} {τ : zT} {v2 : Int32} {s0 : Int32} {o1 : Option Value} {o3 : Option Value} {o4 : Option Value} {r : zS} (H : zb_M_next_348 N σ v2 s0 = some r) : zx_go 2 86 348 [some (.ref 82), o1, some (.int v2), o3, o4] [.int s0] ((119, a, b), zx_pk (zK L) 119, σ, τ, zR) = some (none, ((119, a, b), zx_pk (zK L) 119, r, τ, zR)) := by
  unfold zb_M_next_348 at H
  rw [zs_istore (x := s0) (ls' := [some (.ref 82), o1, some (.int v2), (zJ_cl o3), some (.int s0)]) zd_86_348 (Nat.le_of_ble_eq_true rfl) (zJ_s1 (k := 3) (o := o3) rfl)]
  rw [zs_aload_n (ls := [some (.ref 82), o1, some (.int v2), (zJ_cl o3), some (.int s0)]) zd_86_350 rfl]
  rw [zs_iload (ls := [some (.ref 82), o1, some (.int v2), (zJ_cl o3), some (.int s0)]) zd_86_351 rfl]
  by_cases c12 : s0 = 0
  · rw [if_pos c12] at H
    rw [zp_if_eq_t (x := s0) (t := 360) zd_86_353 rfl c12]
    rw [zs_iconst (z := 1) zd_86_360 (by decide)]
    exact zt_M_next_361  H
  · rw [if_neg c12] at H
    rw [zp_if_eq_f (x := s0) (t := 360) zd_86_353 rfl c12]
    rw [zs_iconst (z := 4) zd_86_356 (by decide)]
    rw [zs_goto (t := 361) zd_86_357 rfl]
    exact zt_M_next_361  H
set_option maxRecDepth 20000 in
theorem zt_M_next_343 {a b L N : Nat} {σ : zS} {τ : zT} {v2 : Int32} {o1 : Option Value} {o3 : Option Value} {o4 : Option Value} {r : zS} (H : zb_M_next_343 N σ v2 = some r) : zx_go 2 86 343 [some (.ref 82), o1, some (.int v2), o3, o4] [] ((119, a, b), zx_pk (zK L) 119, σ, τ, zR) = some (none, ((119, a, b), zx_pk (zK L) 119, r, τ, zR)) := by
  unfold zb_M_next_343 at H
  rw [zs_iconst (z := 1) zd_86_343 (by decide)]
  rw [zs_goto (t := 348) zd_86_344 rfl]
  exact zt_M_next_348  H
set_option maxRecDepth 20000 in
theorem zt_M_next_295 {a b L N : Nat} {σ : zS} {τ : zT} {v2 : Int32} {o1 : Option Value} {o3 : Option Value} {o4 : Option Value} {r : zS} (H : zb_M_next_295 N σ v2 = some r) : zx_go 2 86 295 [some (.ref 82), o1, some (.int v2), o3, o4] [] ((119, a, b), zx_pk (zK L) 119, σ, τ, zR) = some (none, ((119, a, b), zx_pk (zK L) 119, r, τ, zR)) := by
  unfold zb_M_next_295 at H
  rw [zs_iload_n (ls := [some (.ref 82), o1, some (.int v2), o3, o4]) zd_86_295 rfl]
  rw [zs_bipush (z := 61) zd_86_296 (by decide)]
  by_cases c11 : v2 = 61
  · rw [if_pos c11] at H
    rw [zp_icmp_eq_t (x := v2) (y := 61) (t := 343) zd_86_298 rfl c11]
    exact zt_M_next_343  H
  · rw [if_neg c11] at H
    rw [zp_icmp_eq_f (x := v2) (y := 61) (t := 343) zd_86_298 rfl c11]
    rw [zs_iload_n (ls := [some (.ref 82), o1, some (.int v2), o3, o4]) zd_86_301 rfl]
    rw [zs_bipush (z := 59) zd_86_302 (by decide)]
    by_cases c13 : v2 = 59
    · rw [if_pos c13] at H
      rw [zp_icmp_eq_t (x := v2) (y := 59) (t := 343) zd_86_304 rfl c13]
      exact zt_M_next_343  H
    · rw [if_neg c13] at H
      rw [zp_icmp_eq_f (x := v2) (y := 59) (t := 343) zd_86_304 rfl c13]
      rw [zs_iload_n (ls := [some (.ref 82), o1, some (.int v2), o3, o4]) zd_86_307 rfl]
      rw [zs_bipush (z := 123) zd_86_308 (by decide)]
      by_cases c14 : v2 = 123
      · rw [if_pos c14] at H
        rw [zp_icmp_eq_t (x := v2) (y := 123) (t := 343) zd_86_310 rfl c14]
        exact zt_M_next_343  H
      · rw [if_neg c14] at H
        rw [zp_icmp_eq_f (x := v2) (y := 123) (t := 343) zd_86_310 rfl c14]
        rw [zs_iload_n (ls := [some (.ref 82), o1, some (.int v2), o3, o4]) zd_86_313 rfl]
        rw [zs_bipush (z := 125) zd_86_314 (by decide)]
        by_cases c15 : v2 = 125
        · rw [if_pos c15] at H
          rw [zp_icmp_eq_t (x := v2) (y := 125) (t := 343) zd_86_316 rfl c15]
          exact zt_M_next_343  H
        · rw [if_neg c15] at H
          rw [zp_icmp_eq_f (x := v2) (y := 125) (t := 343) zd_86_316 rfl c15]
          rw [zs_iload_n (ls := [some (.ref 82), o1, some (.int v2), o3, o4]) zd_86_319 rfl]
          rw [zs_bipush (z := 60) zd_86_320 (by decide)]
          by_cases c16 : v2 = 60
          · rw [if_pos c16] at H
            rw [zp_icmp_eq_t (x := v2) (y := 60) (t := 343) zd_86_322 rfl c16]
            exact zt_M_next_343  H
          · rw [if_neg c16] at H
            rw [zp_icmp_eq_f (x := v2) (y := 60) (t := 343) zd_86_322 rfl c16]
            rw [zs_iload_n (ls := [some (.ref 82), o1, some (.int v2), o3, o4]) zd_86_325 rfl]
            rw [zs_bipush (z := 62) zd_86_326 (by decide)]
            by_cases c17 : v2 = 62
            · rw [if_pos c17] at H
              rw [zp_icmp_eq_t (x := v2) (y := 62) (t := 343) zd_86_328 rfl c17]
              exact zt_M_next_343  H
            · rw [if_neg c17] at H
              rw [zp_icmp_eq_f (x := v2) (y := 62) (t := 343) zd_86_328 rfl c17]
              rw [zs_iload_n (ls := [some (.ref 82), o1, some (.int v2), o3, o4]) zd_86_331 rfl]
              rw [zs_bipush (z := 43) zd_86_332 (by decide)]
              by_cases c18 : v2 = 43
              · rw [if_pos c18] at H
                rw [zp_icmp_eq_t (x := v2) (y := 43) (t := 343) zd_86_334 rfl c18]
                exact zt_M_next_343  H
              · rw [if_neg c18] at H
                rw [zp_icmp_eq_f (x := v2) (y := 43) (t := 343) zd_86_334 rfl c18]
                rw [zs_iload_n (ls := [some (.ref 82), o1, some (.int v2), o3, o4]) zd_86_337 rfl]
                rw [zs_bipush (z := 45) zd_86_338 (by decide)]
                by_cases c19 : ¬ v2 = 45
                · rw [if_pos c19] at H
                  rw [zp_icmp_ne_t (x := v2) (y := 45) (t := 347) zd_86_340 rfl c19]
                  rw [zs_iconst (z := 0) zd_86_347 (by decide)]
                  exact zt_M_next_348  H
                · rw [if_neg c19] at H
                  rw [zp_icmp_ne_f (x := v2) (y := 45) (t := 347) zd_86_340 rfl c19]
                  exact zt_M_next_343  H
set_option maxRecDepth 20000 in
theorem zt_M_next_289 {a b L N : Nat} {σ : zS} {τ : zT} {s0 : Int32} {o0 : Option Value} {o1 : Option Value} {o2 : Option Value} {o3 : Option Value} {o4 : Option Value} {r : zS} (H : zb_M_next_289 N σ s0 = some r) : zx_go 2 86 289 [o0, o1, o2, o3, o4] [.int s0, .ref 82] ((119, a, b), zx_pk (zK L) 119, σ, τ, zR) = some (none, ((119, a, b), zx_pk (zK L) 119, r, τ, zR)) := by
  unfold zb_M_next_289 at H
  rw [zs_putI (n := 119) (K := zx_pk (zK L) 119) (c := 12) (k := 8) (q := 82) (x := s0) zd_86_289 rfl rfl (by decide +kernel) rfl (by decide)]
  rw [zs_goto (t := 369) zd_86_292 rfl]
  have H := Option.some.inj H
  subst H
  exact zs_return zd_86_369 (by decide +kernel)
set_option maxRecDepth 20000 in
theorem zt_M_next_257 {a b L N : Nat} {σ : zS} {τ : zT} {v2 : Int32} {v3 : Int32} {o1 : Option Value} {o4 : Option Value} {r : zS} (H : zb_M_next_257 N σ v2 v3 = some r) : zx_go 2 86 257 [some (.ref 82), o1, some (.int v2), some (.int v3), o4] [] ((119, a, b), zx_pk (zK L) 119, σ, τ, zR) = some (none, ((119, a, b), zx_pk (zK L) 119, r, τ, zR)) := by
  unfold zb_M_next_257 at H
  rw [zs_iload_n (ls := [some (.ref 82), o1, some (.int v2), some (.int v3), o4]) zd_86_257 rfl]
  rw [zs_bipush (z := 61) zd_86_258 (by decide)]
  by_cases c10 : ¬ v3 = 61
  · rw [if_pos c10] at H
    rw [zp_icmp_ne_t (x := v3) (y := 61) (t := 295) zd_86_260 rfl c10]
    exact zt_M_next_295  H
  · rw [if_neg c10] at H
    rw [zp_icmp_ne_f (x := v3) (y := 61) (t := 295) zd_86_260 rfl c10]
    rw [zs_aload_n (ls := [some (.ref 82), o1, some (.int v2), some (.int v3), o4]) zd_86_263 rfl]
    rw [zs_iconst (z := 2) zd_86_264 (by decide)]
    rw [zs_putI (n := 119) (K := zx_pk (zK L) 119) (c := 12) (k := 6) (q := 82) (x := 2) zd_86_265 rfl rfl (by decide +kernel) rfl (by decide)]
    rw [zs_aload_n (ls := [some (.ref 82), o1, some (.int v2), some (.int v3), o4]) zd_86_268 rfl]
    rw [zs_iconst (z := 4) zd_86_269 (by decide)]
    rw [zs_putI (n := 119) (K := zx_pk (zK L) 119) (c := 12) (k := 7) (q := 82) (x := 4) zd_86_270 rfl rfl (by decide +kernel) rfl (by decide)]
    rw [zs_aload_n (ls := [some (.ref 82), o1, some (.int v2), some (.int v3), o4]) zd_86_273 rfl]
    rw [zs_iload_n (ls := [some (.ref 82), o1, some (.int v2), some (.int v3), o4]) zd_86_274 rfl]
    rw [zs_bipush (z := 61) zd_86_275 (by decide)]
    by_cases c20 : ¬ v2 = 61
    · rw [if_pos c20] at H
      rw [zp_icmp_ne_t (x := v2) (y := 61) (t := 286) zd_86_277 rfl c20]
      rw [zs_sipush (z := 1001) zd_86_286 (by decide)]
      exact zt_M_next_289  H
    · rw [if_neg c20] at H
      rw [zp_icmp_ne_f (x := v2) (y := 61) (t := 286) zd_86_277 rfl c20]
      rw [zs_sipush (z := 1000) zd_86_280 (by decide)]
      rw [zs_goto (t := 289) zd_86_283 rfl]
      exact zt_M_next_289  H
set_option maxRecDepth 20000 in
theorem zt_M_next_239 {a b L N : Nat} {σ : zS} {τ : zT} {s0 : Int32} {o0 : Option Value} {o1 : Option Value} {o2 : Option Value} {o3 : Option Value} {o4 : Option Value} {r : zS} (H : zb_M_next_239 N σ s0 = some r) : zx_go 2 86 239 [o0, o1, o2, o3, o4] [.int s0, .ref 82] ((119, a, b), zx_pk (zK L) 119, σ, τ, zR) = some (none, ((119, a, b), zx_pk (zK L) 119, r, τ, zR)) := by
  unfold zb_M_next_239 at H
  rw [zs_putI (n := 119) (K := zx_pk (zK L) 119) (c := 12) (k := 7) (q := 82) (x := s0) zd_86_239 rfl rfl (by decide +kernel) rfl (by decide)]
  rw [zs_goto (t := 369) zd_86_242 rfl]
  have H := Option.some.inj H
  subst H
  exact zs_return zd_86_369 (by decide +kernel)
set_option maxRecDepth 20000 in
theorem zt_M_next_234 {a b L N : Nat} {σ : zS} {τ : zT} {o0 : Option Value} {o1 : Option Value} {o2 : Option Value} {o3 : Option Value} {o4 : Option Value} {r : zS} (H : zb_M_next_234 N σ = some r) : zx_go 2 86 234 [o0, o1, o2, o3, o4] [.ref 82] ((119, a, b), zx_pk (zK L) 119, σ, τ, zR) = some (none, ((119, a, b), zx_pk (zK L) 119, r, τ, zR)) := by
  unfold zb_M_next_234 at H
  rw [zs_iconst (z := 1) zd_86_234 (by decide)]
  rw [zs_goto (t := 239) zd_86_235 rfl]
  exact zt_M_next_239  H
set_option maxRecDepth 20000 in
theorem zt_M_next_161 {a b L N : Nat} {σ : zS} {τ : zT} {s0 : Int32} {o1 : Option Value} {o2 : Option Value} {o3 : Option Value} {o4 : Option Value} {r : zS} (H : zb_M_next_161 N σ s0 = some r) : zx_go 2 86 161 [some (.ref 82), o1, o2, o3, o4] [.int s0, .ref 82] ((119, a, b), zx_pk (zK L) 119, σ, τ, zR) = some (none, ((119, a, b), zx_pk (zK L) 119, r, τ, zR)) := by
  unfold zb_M_next_161 at H
  rw [zs_putI (n := 119) (K := zx_pk (zK L) 119) (c := 12) (k := 7) (q := 82) (x := s0) zd_86_161 rfl rfl (by decide +kernel) rfl (by decide)]
  rw [zs_aload_n (ls := [some (.ref 82), o1, o2, o3, o4]) zd_86_164 rfl]
  rw [zp_getI (n := 119) (K := zx_pk (zK L) 119) (σ := (zx_up σ 82 7 s0)) (c := 12) (k := 7) (q := 82) (v := s0) zd_86_165 rfl rfl rfl (by decide) (show ((zx_up σ 82 7 s0) : zS) 82 7 = s0 from zx_up_at)]
  rw [zs_iconst (z := 2) zd_86_168 (by decide)]
  by_cases c34 : ¬ s0 = 2
  · rw [if_pos c34] at H
    rw [zp_icmp_ne_t (x := s0) (y := 2) (t := 369) zd_86_169 rfl c34]
    have H := Option.some.inj H
    subst H
    exact zs_return zd_86_369 (by decide +kernel)
  · rw [if_neg c34] at H
    rw [zp_icmp_ne_f (x := s0) (y := 2) (t := 369) zd_86_169 rfl c34]
    rw [zs_aload_n (ls := [some (.ref 82), o1, o2, o3, o4]) zd_86_172 rfl]
    obtain ⟨r35, hr35, H⟩ := Option.bind_eq_some_iff.mp H
    rw [zp_callVi (x := r35) (st := [.ref 82]) (as := [.ref 82]) (rest := []) (e := 1) zd_86_173 rfl (by decide +kernel) (by decide) rfl rfl (Nat.le_of_ble_eq_true rfl) (zx_rcb_ok rfl (show 82 < 119 by decide)) (Nat.le_of_ble_eq_true rfl) rfl (by decide) (zt_M_wordHere hr35)]
    by_cases c36 : r35 ≤ 0
    · rw [if_pos c36] at H
      rw [zp_if_le_t (x := r35) (t := 369) zd_86_176 rfl c36]
      have H := Option.some.inj H
      subst H
      exact zs_return zd_86_369 (by decide +kernel)
    · rw [if_neg c36] at H
      rw [zp_if_le_f (x := r35) (t := 369) zd_86_176 rfl c36]
      rw [zs_aload_n (ls := [some (.ref 82), o1, o2, o3, o4]) zd_86_179 rfl]
      rw [zs_iconst (z := 5) zd_86_180 (by decide)]
      rw [zs_putI (n := 119) (K := zx_pk (zK L) 119) (c := 12) (k := 7) (q := 82) (x := 5) zd_86_181 rfl rfl (by decide +kernel) rfl (by decide)]
      rw [zs_aload_n (ls := [some (.ref 82), o1, o2, o3, o4]) zd_86_184 rfl]
      rw [zs_aload_n (ls := [some (.ref 82), o1, o2, o3, o4]) zd_86_185 rfl]
      obtain ⟨r37, hr37, H⟩ := Option.bind_eq_some_iff.mp H
      rw [zp_callVi (x := r37) (st := [.ref 82, .ref 82]) (as := [.ref 82]) (rest := [.ref 82]) (e := 1) zd_86_186 rfl (by decide +kernel) (by decide) rfl rfl (Nat.le_of_ble_eq_true rfl) (zx_rcb_ok rfl (show 82 < 119 by decide)) (Nat.le_of_ble_eq_true rfl) rfl (by decide) (zt_M_wordHere hr37)]
      rw [zs_putI (n := 119) (K := zx_pk (zK L) 119) (c := 12) (k := 8) (q := 82) (x := r37) zd_86_189 rfl rfl (by decide +kernel) rfl (by decide)]
      rw [zs_goto (t := 369) zd_86_192 rfl]
      have H := Option.some.inj H
      subst H
      exact zs_return zd_86_369 (by decide +kernel)
set_option maxRecDepth 20000 in
theorem zt_M_next_133 {a b L N : Nat} {k101 : zS → Int32 → Option (zS)} (hk101 : ∀ {σ : zS} {τ : zT} {v1 : Int32} {o2 : Option Value} {o3 : Option Value} {o4 : Option Value} {r : zS}, k101 σ v1 = some r → zx_go 2 86 101 [some (.ref 82), some (.int v1), o2, o3, o4] [] ((119, a, b), zx_pk (zK L) 119, σ, τ, zR) = some (none, ((119, a, b), zx_pk (zK L) 119, r, τ, zR))) {σ : zS} {τ : zT} {v1 : Int32} {o2 : Option Value} {o3 : Option Value} {o4 : Option Value} {r : zS} (H : zb_M_next_133 k101 N σ v1 = some r) : zx_go 2 86 133 [some (.ref 82), some (.int v1), o2, o3, o4] [] ((119, a, b), zx_pk (zK L) 119, σ, τ, zR) = some (none, ((119, a, b), zx_pk (zK L) 119, r, τ, zR)) := by
  unfold zb_M_next_133 at H
  rw [zs_aload_n (ls := [some (.ref 82), some (.int v1), o2, o3, o4]) zd_86_133 rfl]
  rw [zs_dup (a := .ref 82) zd_86_134 rfl]
  rw [zp_getI (n := 119) (K := zx_pk (zK L) 119) (σ := σ) (c := 12) (k := 6) (q := 82) (v := (σ 82 6)) zd_86_135 rfl rfl rfl (by decide) rfl]
  rw [zs_iconst (z := 1) zd_86_138 (by decide)]
  rw [zp_iadd (x := (σ 82 6)) (y := 1) (z := ((σ 82 6) + 1)) zd_86_139 rfl]
  rw [zs_putI (n := 119) (K := zx_pk (zK L) 119) (c := 12) (k := 6) (q := 82) (x := ((σ 82 6) + 1)) zd_86_140 rfl rfl (by decide +kernel) rfl (by decide)]
  rw [zs_goto (t := 101) zd_86_143 rfl]
  exact hk101 H
set_option maxRecDepth 20000 in
theorem zt_M_next_101 {a b L N : Nat} : ∀ {n : Nat} {σ : zS} {τ : zT} {v1 : Int32} {o2 : Option Value} {o3 : Option Value} {o4 : Option Value} {r : zS}, zb_M_next_101 N n σ v1 = some r → zx_go 2 86 101 [some (.ref 82), some (.int v1), o2, o3, o4] [] ((119, a, b), zx_pk (zK L) 119, σ, τ, zR) = some (none, ((119, a, b), zx_pk (zK L) 119, r, τ, zR)) := by
  intro n
  induction n with
  | zero =>
    intro _ _ _ _ _ _ _ H
    cases H
  | succ n ih =>
    intro σ τ v1 o2 o3 o4 r H
    rw [zb_M_next_101] at H
    rw [zs_aload_n (ls := [some (.ref 82), some (.int v1), o2, o3, o4]) zd_86_101 rfl]
    rw [zs_iload_n (ls := [some (.ref 82), some (.int v1), o2, o3, o4]) zd_86_102 rfl]
    rw [zs_aload_n (ls := [some (.ref 82), some (.int v1), o2, o3, o4]) zd_86_103 rfl]
    rw [zp_getI (n := 119) (K := zx_pk (zK L) 119) (σ := σ) (c := 12) (k := 6) (q := 82) (v := (σ 82 6)) zd_86_104 rfl rfl rfl (by decide) rfl]
    rw [zp_iadd (x := v1) (y := (σ 82 6)) (z := (v1 + (σ 82 6))) zd_86_107 rfl]
    obtain ⟨r27, hr27, H⟩ := Option.bind_eq_some_iff.mp H
    rw [zp_callVi (x := r27) (st := [.int (v1 + (σ 82 6)), .ref 82]) (as := [.ref 82, .int (v1 + (σ 82 6))]) (rest := []) (e := 0) zd_86_108 rfl (by decide +kernel) (by decide) rfl rfl (Nat.le_of_ble_eq_true rfl) (zx_rcb_ok rfl (show 82 < 119 by decide)) (Nat.le_of_ble_eq_true rfl) rfl (by decide) (zt_M_byteAt hr27)]
    obtain ⟨r28, hr28, H⟩ := Option.bind_eq_some_iff.mp H
    rw [zp_callSi (x := r28) (st := [.int r27]) (as := [.int r27]) (rest := []) (e := 1) zd_86_111 rfl (by decide +kernel) (by decide) rfl rfl (Nat.le_of_ble_eq_true rfl) rfl (Nat.le_of_ble_eq_true rfl) rfl (by decide) (zt_M_isLetter hr28)]
    by_cases c29 : ¬ r28 = 0
    · rw [if_pos c29] at H
      rw [zp_if_ne_t (x := r28) (t := 133) zd_86_114 rfl c29]
      exact zt_M_next_133 (hk101 := ih) H
    · rw [if_neg c29] at H
      rw [zp_if_ne_f (x := r28) (t := 133) zd_86_114 rfl c29]
      rw [zs_aload_n (ls := [some (.ref 82), some (.int v1), o2, o3, o4]) zd_86_117 rfl]
      rw [zs_iload_n (ls := [some (.ref 82), some (.int v1), o2, o3, o4]) zd_86_118 rfl]
      rw [zs_aload_n (ls := [some (.ref 82), some (.int v1), o2, o3, o4]) zd_86_119 rfl]
      rw [zp_getI (n := 119) (K := zx_pk (zK L) 119) (σ := σ) (c := 12) (k := 6) (q := 82) (v := (σ 82 6)) zd_86_120 rfl rfl rfl (by decide) rfl]
      rw [zp_iadd (x := v1) (y := (σ 82 6)) (z := (v1 + (σ 82 6))) zd_86_123 rfl]
      obtain ⟨r30, hr30, H⟩ := Option.bind_eq_some_iff.mp H
      rw [zp_callVi (x := r30) (st := [.int (v1 + (σ 82 6)), .ref 82]) (as := [.ref 82, .int (v1 + (σ 82 6))]) (rest := []) (e := 0) zd_86_124 rfl (by decide +kernel) (by decide) rfl rfl (Nat.le_of_ble_eq_true rfl) (zx_rcb_ok rfl (show 82 < 119 by decide)) (Nat.le_of_ble_eq_true rfl) rfl (by decide) (zt_M_byteAt hr30)]
      obtain ⟨r31, hr31, H⟩ := Option.bind_eq_some_iff.mp H
      rw [zp_callSi (x := r31) (st := [.int r30]) (as := [.int r30]) (rest := []) (e := 1) zd_86_127 rfl (by decide +kernel) (by decide) rfl rfl (Nat.le_of_ble_eq_true rfl) rfl (Nat.le_of_ble_eq_true rfl) rfl (by decide) (zt_M_isDigit hr31)]
      by_cases c32 : r31 = 0
      · rw [if_pos c32] at H
        rw [zp_if_eq_t (x := r31) (t := 146) zd_86_130 rfl c32]
        rw [zs_aload_n (ls := [some (.ref 82), some (.int v1), o2, o3, o4]) zd_86_146 rfl]
        rw [zs_aload_n (ls := [some (.ref 82), some (.int v1), o2, o3, o4]) zd_86_147 rfl]
        rw [zp_getI (n := 119) (K := zx_pk (zK L) 119) (σ := σ) (c := 12) (k := 6) (q := 82) (v := (σ 82 6)) zd_86_148 rfl rfl rfl (by decide) rfl]
        rw [zs_bipush (z := 6) zd_86_151 (by decide)]
        by_cases c33 : (σ 82 6) ≤ 6
        · rw [if_pos c33] at H
          rw [zp_icmp_le_t (x := (σ 82 6)) (y := 6) (t := 160) zd_86_153 rfl c33]
          rw [zs_iconst (z := 2) zd_86_160 (by decide)]
          exact zt_M_next_161  H
        · rw [if_neg c33] at H
          rw [zp_icmp_le_f (x := (σ 82 6)) (y := 6) (t := 160) zd_86_153 rfl c33]
          rw [zs_iconst (z := 1) zd_86_156 (by decide)]
          rw [zs_goto (t := 161) zd_86_157 rfl]
          exact zt_M_next_161  H
      · rw [if_neg c32] at H
        rw [zp_if_eq_f (x := r31) (t := 146) zd_86_130 rfl c32]
        exact zt_M_next_133 (hk101 := ih) H
set_option maxRecDepth 20000 in
theorem zt_M_next_44 {a b L N : Nat} {σ : zS} {τ : zT} {v1 : Int32} {o2 : Option Value} {o3 : Option Value} {o4 : Option Value} {r : zS} (H : zb_M_next_44 N σ v1 = some r) : zx_go 2 86 44 [some (.ref 82), some (.int v1), o2, o3, o4] [] ((119, a, b), zx_pk (zK L) 119, σ, τ, zR) = some (none, ((119, a, b), zx_pk (zK L) 119, r, τ, zR)) := by
  unfold zb_M_next_44 at H
  rw [zs_aload_n (ls := [some (.ref 82), some (.int v1), o2, o3, o4]) zd_86_44 rfl]
  rw [zs_iload_n (ls := [some (.ref 82), some (.int v1), o2, o3, o4]) zd_86_45 rfl]
  rw [zs_putI (n := 119) (K := zx_pk (zK L) 119) (c := 12) (k := 5) (q := 82) (x := v1) zd_86_46 rfl rfl (by decide +kernel) rfl (by decide)]
  rw [zs_aload_n (ls := [some (.ref 82), some (.int v1), o2, o3, o4]) zd_86_49 rfl]
  rw [zs_iconst (z := 1) zd_86_50 (by decide)]
  rw [zs_putI (n := 119) (K := zx_pk (zK L) 119) (c := 12) (k := 6) (q := 82) (x := 1) zd_86_51 rfl rfl (by decide +kernel) rfl (by decide)]
  rw [zs_aload_n (ls := [some (.ref 82), some (.int v1), o2, o3, o4]) zd_86_54 rfl]
  rw [zs_iconst (z := 0) zd_86_55 (by decide)]
  rw [zs_putI (n := 119) (K := zx_pk (zK L) 119) (c := 12) (k := 8) (q := 82) (x := 0) zd_86_56 rfl rfl (by decide +kernel) rfl (by decide)]
  rw [zs_aload_n (ls := [some (.ref 82), some (.int v1), o2, o3, o4]) zd_86_59 rfl]
  rw [zs_iload_n (ls := [some (.ref 82), some (.int v1), o2, o3, o4]) zd_86_60 rfl]
  obtain ⟨r2, hr2, H⟩ := Option.bind_eq_some_iff.mp H
  rw [zp_callVi (x := r2) (st := [.int v1, .ref 82]) (as := [.ref 82, .int v1]) (rest := []) (e := 0) zd_86_61 rfl (by decide +kernel) (by decide) rfl rfl (Nat.le_of_ble_eq_true rfl) (zx_rcb_ok rfl (show 82 < 119 by decide)) (Nat.le_of_ble_eq_true rfl) rfl (by decide) (zt_M_byteAt hr2)]
  rw [zs_istore_n (x := r2) (ls' := [some (.ref 82), some (.int v1), some (.int r2), o3, o4]) zd_86_64 (Nat.le_of_ble_eq_true rfl) rfl]
  rw [zs_aload_n (ls := [some (.ref 82), some (.int v1), some (.int r2), o3, o4]) zd_86_65 rfl]
  rw [zs_iload_n (ls := [some (.ref 82), some (.int v1), some (.int r2), o3, o4]) zd_86_66 rfl]
  rw [zs_iconst (z := 1) zd_86_67 (by decide)]
  rw [zp_iadd (x := v1) (y := 1) (z := (v1 + 1)) zd_86_68 rfl]
  obtain ⟨r3, hr3, H⟩ := Option.bind_eq_some_iff.mp H
  rw [zp_callVi (x := r3) (st := [.int (v1 + 1), .ref 82]) (as := [.ref 82, .int (v1 + 1)]) (rest := []) (e := 0) zd_86_69 rfl (by decide +kernel) (by decide) rfl rfl (Nat.le_of_ble_eq_true rfl) (zx_rcb_ok rfl (show 82 < 119 by decide)) (Nat.le_of_ble_eq_true rfl) rfl (by decide) (zt_M_byteAt hr3)]
  rw [zs_istore_n (x := r3) (ls' := [some (.ref 82), some (.int v1), some (.int r2), some (.int r3), o4]) zd_86_72 (Nat.le_of_ble_eq_true rfl) rfl]
  rw [zs_iload_n (ls := [some (.ref 82), some (.int v1), some (.int r2), some (.int r3), o4]) zd_86_73 rfl]
  rw [zs_aload_n (ls := [some (.ref 82), some (.int v1), some (.int r2), some (.int r3), o4]) zd_86_74 rfl]
  rw [zp_getI (n := 119) (K := zx_pk (zK L) 119) (σ := (zx_up (zx_up (zx_up σ 82 5 v1) 82 6 1) 82 8 0)) (c := 12) (k := 4) (q := 82) (v := (σ 82 4)) zd_86_75 rfl rfl rfl (by decide) (show ((zx_up (zx_up (zx_up σ 82 5 v1) 82 6 1) 82 8 0) : zS) 82 4 = (σ 82 4) from ((zx_up_nj (by decide)).trans ((zx_up_nj (by decide)).trans ((zx_up_nj (by decide)).trans rfl))))]
  by_cases c4 : v1 < (σ 82 4)
  · rw [if_pos c4] at H
    rw [zp_icmp_lt_t (x := v1) (y := (σ 82 4)) (t := 94) zd_86_78 rfl c4]
    rw [zs_iload_n (ls := [some (.ref 82), some (.int v1), some (.int r2), some (.int r3), o4]) zd_86_94 rfl]
    obtain ⟨r5, hr5, H⟩ := Option.bind_eq_some_iff.mp H
    rw [zp_callSi (x := r5) (st := [.int r2]) (as := [.int r2]) (rest := []) (e := 1) zd_86_95 rfl (by decide +kernel) (by decide) rfl rfl (Nat.le_of_ble_eq_true rfl) rfl (Nat.le_of_ble_eq_true rfl) rfl (by decide) (zt_M_isLetter hr5)]
    by_cases c6 : r5 = 0
    · rw [if_pos c6] at H
      rw [zp_if_eq_t (x := r5) (t := 195) zd_86_98 rfl c6]
      rw [zs_iload_n (ls := [some (.ref 82), some (.int v1), some (.int r2), some (.int r3), o4]) zd_86_195 rfl]
      obtain ⟨r7, hr7, H⟩ := Option.bind_eq_some_iff.mp H
      rw [zp_callSi (x := r7) (st := [.int r2]) (as := [.int r2]) (rest := []) (e := 1) zd_86_196 rfl (by decide +kernel) (by decide) rfl rfl (Nat.le_of_ble_eq_true rfl) rfl (Nat.le_of_ble_eq_true rfl) rfl (by decide) (zt_M_isDigit hr7)]
      by_cases c8 : r7 = 0
      · rw [if_pos c8] at H
        rw [zp_if_eq_t (x := r7) (t := 245) zd_86_199 rfl c8]
        rw [zs_iload_n (ls := [some (.ref 82), some (.int v1), some (.int r2), some (.int r3), o4]) zd_86_245 rfl]
        rw [zs_bipush (z := 61) zd_86_246 (by decide)]
        by_cases c9 : r2 = 61
        · rw [if_pos c9] at H
          rw [zp_icmp_eq_t (x := r2) (y := 61) (t := 257) zd_86_248 rfl c9]
          exact zt_M_next_257  H
        · rw [if_neg c9] at H
          rw [zp_icmp_eq_f (x := r2) (y := 61) (t := 257) zd_86_248 rfl c9]
          rw [zs_iload_n (ls := [some (.ref 82), some (.int v1), some (.int r2), some (.int r3), o4]) zd_86_251 rfl]
          rw [zs_bipush (z := 33) zd_86_252 (by decide)]
          by_cases c21 : ¬ r2 = 33
          · rw [if_pos c21] at H
            rw [zp_icmp_ne_t (x := r2) (y := 33) (t := 295) zd_86_254 rfl c21]
            exact zt_M_next_295  H
          · rw [if_neg c21] at H
            rw [zp_icmp_ne_f (x := r2) (y := 33) (t := 295) zd_86_254 rfl c21]
            exact zt_M_next_257  H
      · rw [if_neg c8] at H
        rw [zp_if_eq_f (x := r7) (t := 245) zd_86_199 rfl c8]
        rw [zs_aload_n (ls := [some (.ref 82), some (.int v1), some (.int r2), some (.int r3), o4]) zd_86_202 rfl]
        rw [zs_iload_n (ls := [some (.ref 82), some (.int v1), some (.int r2), some (.int r3), o4]) zd_86_203 rfl]
        rw [zs_bipush (z := 48) zd_86_204 (by decide)]
        rw [zp_isub (x := r2) (y := 48) (z := (r2 - 48)) zd_86_206 rfl]
        rw [zs_putI (n := 119) (K := zx_pk (zK L) 119) (c := 12) (k := 8) (q := 82) (x := (r2 - 48)) zd_86_207 rfl rfl (by decide +kernel) rfl (by decide)]
        rw [zs_aload_n (ls := [some (.ref 82), some (.int v1), some (.int r2), some (.int r3), o4]) zd_86_210 rfl]
        rw [zs_aload_n (ls := [some (.ref 82), some (.int v1), some (.int r2), some (.int r3), o4]) zd_86_211 rfl]
        rw [zp_getI (n := 119) (K := zx_pk (zK L) 119) (σ := (zx_up (zx_up (zx_up (zx_up σ 82 5 v1) 82 6 1) 82 8 0) 82 8 (r2 - 48))) (c := 12) (k := 8) (q := 82) (v := (r2 - 48)) zd_86_212 rfl rfl rfl (by decide) (show ((zx_up (zx_up (zx_up (zx_up σ 82 5 v1) 82 6 1) 82 8 0) 82 8 (r2 - 48)) : zS) 82 8 = (r2 - 48) from zx_up_at)]
        rw [zs_bipush (z := 7) zd_86_215 (by decide)]
        by_cases c22 : 7 < (r2 - 48)
        · rw [if_pos c22] at H
          rw [zp_icmp_gt_t (x := (r2 - 48)) (y := 7) (t := 234) zd_86_217 rfl c22]
          exact zt_M_next_234  H
        · rw [if_neg c22] at H
          rw [zp_icmp_gt_f (x := (r2 - 48)) (y := 7) (t := 234) zd_86_217 rfl c22]
          rw [zs_iload_n (ls := [some (.ref 82), some (.int v1), some (.int r2), some (.int r3), o4]) zd_86_220 rfl]
          obtain ⟨r23, hr23, H⟩ := Option.bind_eq_some_iff.mp H
          rw [zp_callSi (x := r23) (st := [.int r3, .ref 82]) (as := [.int r3]) (rest := [.ref 82]) (e := 1) zd_86_221 rfl (by decide +kernel) (by decide) rfl rfl (Nat.le_of_ble_eq_true rfl) rfl (Nat.le_of_ble_eq_true rfl) rfl (by decide) (zt_M_isDigit hr23)]
          by_cases c24 : ¬ r23 = 0
          · rw [if_pos c24] at H
            rw [zp_if_ne_t (x := r23) (t := 234) zd_86_224 rfl c24]
            exact zt_M_next_234  H
          · rw [if_neg c24] at H
            rw [zp_if_ne_f (x := r23) (t := 234) zd_86_224 rfl c24]
            rw [zs_iload_n (ls := [some (.ref 82), some (.int v1), some (.int r2), some (.int r3), o4]) zd_86_227 rfl]
            obtain ⟨r25, hr25, H⟩ := Option.bind_eq_some_iff.mp H
            rw [zp_callSi (x := r25) (st := [.int r3, .ref 82]) (as := [.int r3]) (rest := [.ref 82]) (e := 1) zd_86_228 rfl (by decide +kernel) (by decide) rfl rfl (Nat.le_of_ble_eq_true rfl) rfl (Nat.le_of_ble_eq_true rfl) rfl (by decide) (zt_M_isLetter hr25)]
            by_cases c26 : r25 = 0
            · rw [if_pos c26] at H
              rw [zp_if_eq_t (x := r25) (t := 238) zd_86_231 rfl c26]
              rw [zs_iconst (z := 3) zd_86_238 (by decide)]
              exact zt_M_next_239  H
            · rw [if_neg c26] at H
              rw [zp_if_eq_f (x := r25) (t := 238) zd_86_231 rfl c26]
              exact zt_M_next_234  H
    · rw [if_neg c6] at H
      rw [zp_if_eq_f (x := r5) (t := 195) zd_86_98 rfl c6]
      exact zt_M_next_101  H
  · rw [if_neg c4] at H
    rw [zp_icmp_lt_f (x := v1) (y := (σ 82 4)) (t := 94) zd_86_78 rfl c4]
    rw [zs_aload_n (ls := [some (.ref 82), some (.int v1), some (.int r2), some (.int r3), o4]) zd_86_81 rfl]
    rw [zs_iconst (z := 0) zd_86_82 (by decide)]
    rw [zs_putI (n := 119) (K := zx_pk (zK L) 119) (c := 12) (k := 6) (q := 82) (x := 0) zd_86_83 rfl rfl (by decide +kernel) rfl (by decide)]
    rw [zs_aload_n (ls := [some (.ref 82), some (.int v1), some (.int r2), some (.int r3), o4]) zd_86_86 rfl]
    rw [zs_iconst (z := 0) zd_86_87 (by decide)]
    rw [zs_putI (n := 119) (K := zx_pk (zK L) 119) (c := 12) (k := 7) (q := 82) (x := 0) zd_86_88 rfl rfl (by decide +kernel) rfl (by decide)]
    rw [zs_goto (t := 369) zd_86_91 rfl]
    have H := Option.some.inj H
    subst H
    exact zs_return zd_86_369 (by decide +kernel)
set_option maxRecDepth 20000 in
theorem zt_M_next_38 {a b L N : Nat} {k10 : zS → Int32 → Option (zS)} (hk10 : ∀ {σ : zS} {τ : zT} {v1 : Int32} {o2 : Option Value} {o3 : Option Value} {o4 : Option Value} {r : zS}, k10 σ v1 = some r → zx_go 2 86 10 [some (.ref 82), some (.int v1), o2, o3, o4] [] ((119, a, b), zx_pk (zK L) 119, σ, τ, zR) = some (none, ((119, a, b), zx_pk (zK L) 119, r, τ, zR))) {σ : zS} {τ : zT} {v1 : Int32} {o2 : Option Value} {o3 : Option Value} {o4 : Option Value} {r : zS} (H : zb_M_next_38 k10 N σ v1 = some r) : zx_go 2 86 38 [some (.ref 82), some (.int v1), o2, o3, o4] [] ((119, a, b), zx_pk (zK L) 119, σ, τ, zR) = some (none, ((119, a, b), zx_pk (zK L) 119, r, τ, zR)) := by
  unfold zb_M_next_38 at H
  rw [zs_iinc (ls := [some (.ref 82), some (.int v1), o2, o3, o4]) (x := v1) (z := (v1 + 1)) (ls' := [some (.ref 82), some (.int (v1 + 1)), o2, o3, o4]) zd_86_38 rfl rfl rfl]
  rw [zs_goto (t := 10) zd_86_41 rfl]
  exact hk10 H
set_option maxRecDepth 20000 in
theorem zt_M_next_10 {a b L N : Nat} : ∀ {n : Nat} {σ : zS} {τ : zT} {v1 : Int32} {o2 : Option Value} {o3 : Option Value} {o4 : Option Value} {r : zS}, zb_M_next_10 N n σ v1 = some r → zx_go 2 86 10 [some (.ref 82), some (.int v1), o2, o3, o4] [] ((119, a, b), zx_pk (zK L) 119, σ, τ, zR) = some (none, ((119, a, b), zx_pk (zK L) 119, r, τ, zR)) := by
  intro n
  induction n with
  | zero =>
    intro _ _ _ _ _ _ _ H
    cases H
  | succ n ih =>
    intro σ τ v1 o2 o3 o4 r H
    rw [zb_M_next_10] at H
    rw [zs_iload_n (ls := [some (.ref 82), some (.int v1), o2, o3, o4]) zd_86_10 rfl]
    rw [zs_aload_n (ls := [some (.ref 82), some (.int v1), o2, o3, o4]) zd_86_11 rfl]
    rw [zp_getI (n := 119) (K := zx_pk (zK L) 119) (σ := σ) (c := 12) (k := 4) (q := 82) (v := (σ 82 4)) zd_86_12 rfl rfl rfl (by decide) rfl]
    by_cases c1 : (σ 82 4) ≤ v1
    · rw [if_pos c1] at H
      rw [zp_icmp_ge_t (x := v1) (y := (σ 82 4)) (t := 44) zd_86_15 rfl c1]
      exact zt_M_next_44  H
    · rw [if_neg c1] at H
      rw [zp_icmp_ge_f (x := v1) (y := (σ 82 4)) (t := 44) zd_86_15 rfl c1]
      rw [zs_aload_n (ls := [some (.ref 82), some (.int v1), o2, o3, o4]) zd_86_18 rfl]
      rw [zs_iload_n (ls := [some (.ref 82), some (.int v1), o2, o3, o4]) zd_86_19 rfl]
      obtain ⟨r38, hr38, H⟩ := Option.bind_eq_some_iff.mp H
      rw [zp_callVi (x := r38) (st := [.int v1, .ref 82]) (as := [.ref 82, .int v1]) (rest := []) (e := 0) zd_86_20 rfl (by decide +kernel) (by decide) rfl rfl (Nat.le_of_ble_eq_true rfl) (zx_rcb_ok rfl (show 82 < 119 by decide)) (Nat.le_of_ble_eq_true rfl) rfl (by decide) (zt_M_byteAt hr38)]
      rw [zs_bipush (z := 32) zd_86_23 (by decide)]
      by_cases c39 : r38 = 32
      · rw [if_pos c39] at H
        rw [zp_icmp_eq_t (x := r38) (y := 32) (t := 38) zd_86_25 rfl c39]
        exact zt_M_next_38 (hk10 := ih) H
      · rw [if_neg c39] at H
        rw [zp_icmp_eq_f (x := r38) (y := 32) (t := 38) zd_86_25 rfl c39]
        rw [zs_aload_n (ls := [some (.ref 82), some (.int v1), o2, o3, o4]) zd_86_28 rfl]
        rw [zs_iload_n (ls := [some (.ref 82), some (.int v1), o2, o3, o4]) zd_86_29 rfl]
        obtain ⟨r40, hr40, H⟩ := Option.bind_eq_some_iff.mp H
        rw [zp_callVi (x := r40) (st := [.int v1, .ref 82]) (as := [.ref 82, .int v1]) (rest := []) (e := 0) zd_86_30 rfl (by decide +kernel) (by decide) rfl rfl (Nat.le_of_ble_eq_true rfl) (zx_rcb_ok rfl (show 82 < 119 by decide)) (Nat.le_of_ble_eq_true rfl) rfl (by decide) (zt_M_byteAt hr40)]
        rw [zs_bipush (z := 10) zd_86_33 (by decide)]
        by_cases c41 : ¬ r40 = 10
        · rw [if_pos c41] at H
          rw [zp_icmp_ne_t (x := r40) (y := 10) (t := 44) zd_86_35 rfl c41]
          exact zt_M_next_44  H
        · rw [if_neg c41] at H
          rw [zp_icmp_ne_f (x := r40) (y := 10) (t := 44) zd_86_35 rfl c41]
          exact zt_M_next_38 (hk10 := ih) H
set_option maxRecDepth 20000 in
theorem zt_M_next {a b L N : Nat} {σ : zS} {τ : zT} {r : zS} (H : zf_M_next N σ = some r) : zx_go 2 86 0 [some (.ref 82), none, none, none, none] [] ((119, a, b), zx_pk (zK L) 119, σ, τ, zR) = some (none, ((119, a, b), zx_pk (zK L) 119, r, τ, zR)) := by
  unfold zf_M_next at H
  rw [zs_aload_n (ls := [some (.ref 82), none, none, none, none]) zd_86_0 rfl]
  rw [zp_getI (n := 119) (K := zx_pk (zK L) 119) (σ := σ) (c := 12) (k := 5) (q := 82) (v := (σ 82 5)) zd_86_1 rfl rfl rfl (by decide) rfl]
  rw [zs_aload_n (ls := [some (.ref 82), none, none, none, none]) zd_86_4 rfl]
  rw [zp_getI (n := 119) (K := zx_pk (zK L) 119) (σ := σ) (c := 12) (k := 6) (q := 82) (v := (σ 82 6)) zd_86_5 rfl rfl rfl (by decide) rfl]
  rw [zp_iadd (x := (σ 82 5)) (y := (σ 82 6)) (z := ((σ 82 5) + (σ 82 6))) zd_86_8 rfl]
  rw [zs_istore_n (x := ((σ 82 5) + (σ 82 6))) (ls' := [some (.ref 82), some (.int ((σ 82 5) + (σ 82 6))), none, none, none]) zd_86_9 (Nat.le_of_ble_eq_true rfl) rfl]
  exact zt_M_next_10  H
set_option maxRecDepth 20000 in
theorem zt_M_allSteps_4 {a b L N : Nat} : ∀ {n : Nat} {σ : zS} {τ : zT} {v1 : Int32} {v2 : Int32} {r : Int32}, zb_M_allSteps_4 N n σ v1 v2 = some r → zx_go 0 120 4 [some (.ref 82), some (.int v1), some (.int v2)] [] ((119, a, b), zx_pk (zK L) 119, σ, τ, zR) = some (some (.int r), ((119, a, b), zx_pk (zK L) 119, σ, τ, zR)) := by
  intro n
  induction n with
  | zero =>
    intro _ _ _ _ _ H
    cases H
  | succ n ih =>
    intro σ τ v1 v2 r H
    rw [zb_M_allSteps_4] at H
    rw [zs_iload_n (ls := [some (.ref 82), some (.int v1), some (.int v2)]) zd_120_4 rfl]
    rw [zs_aload_n (ls := [some (.ref 82), some (.int v1), some (.int v2)]) zd_120_5 rfl]
    rw [zp_getI (n := 119) (K := zx_pk (zK L) 119) (σ := σ) (c := 12) (k := 17) (q := 82) (v := (σ 82 17)) zd_120_6 rfl rfl rfl (by decide) rfl]
    by_cases c1 : (σ 82 17) ≤ v2
    · rw [if_pos c1] at H
      rw [zp_icmp_ge_t (x := v2) (y := (σ 82 17)) (t := 27) zd_120_9 rfl c1]
      rw [zs_iload_n (ls := [some (.ref 82), some (.int v1), some (.int v2)]) zd_120_27 rfl]
      have H := Option.some.inj H
      subst H
      exact zs_ireturn zd_120_28 rfl
    · rw [if_neg c1] at H
      rw [zp_icmp_ge_f (x := v2) (y := (σ 82 17)) (t := 27) zd_120_9 rfl c1]
      rw [zs_iload_n (ls := [some (.ref 82), some (.int v1), some (.int v2)]) zd_120_12 rfl]
      rw [zs_aload_n (ls := [some (.ref 82), some (.int v1), some (.int v2)]) zd_120_13 rfl]
      rw [zs_getR (n := 119) (K := zx_pk (zK L) 119) (ρ := zR) (c := 12) (k := 24) (q := 82) (p := 90) zd_120_14 rfl rfl rfl (by decide) rfl]
      rw [zs_iload_n (ls := [some (.ref 82), some (.int v1), some (.int v2)]) zd_120_17 rfl]
      by_cases c2 : 0 ≤ v2 ∧ v2 < 4
      · rw [if_pos c2] at H
        rw [zp_iaload (n := 119) (K := zx_pk (zK L) 119) (σ := σ) (q := 90) (m := 4) (i := v2) (k := v2.toNatClampNeg) (v := (σ 90 v2.toNatClampNeg)) zd_120_18 rfl (by decide) (zJ_in c2 rfl) rfl rfl]
        rw [zp_iadd (x := v1) (y := (σ 90 v2.toNatClampNeg)) (z := (v1 + (σ 90 v2.toNatClampNeg))) zd_120_19 rfl]
        rw [zs_istore_n (x := (v1 + (σ 90 v2.toNatClampNeg))) (ls' := [some (.ref 82), some (.int (v1 + (σ 90 v2.toNatClampNeg))), some (.int v2)]) zd_120_20 (Nat.le_of_ble_eq_true rfl) rfl]
        rw [zs_iinc (ls := [some (.ref 82), some (.int (v1 + (σ 90 v2.toNatClampNeg))), some (.int v2)]) (x := v2) (z := (v2 + 1)) (ls' := [some (.ref 82), some (.int (v1 + (σ 90 v2.toNatClampNeg))), some (.int (v2 + 1))]) zd_120_21 rfl rfl rfl]
        rw [zs_goto (t := 4) zd_120_24 rfl]
        exact ih H
      · rw [if_neg c2] at H
        cases H
set_option maxRecDepth 20000 in
theorem zt_M_allSteps {a b L N : Nat} {σ : zS} {τ : zT} {r : Int32} (H : zf_M_allSteps N σ = some r) : zx_go 0 120 0 [some (.ref 82), none, none] [] ((119, a, b), zx_pk (zK L) 119, σ, τ, zR) = some (some (.int r), ((119, a, b), zx_pk (zK L) 119, σ, τ, zR)) := by
  unfold zf_M_allSteps at H
  rw [zs_iconst (z := 0) zd_120_0 (by decide)]
  rw [zs_istore_n (x := 0) (ls' := [some (.ref 82), some (.int 0), none]) zd_120_1 (Nat.le_of_ble_eq_true rfl) rfl]
  rw [zs_iconst (z := 0) zd_120_2 (by decide)]
  rw [zs_istore_n (x := 0) (ls' := [some (.ref 82), some (.int 0), some (.int 0)]) zd_120_3 (Nat.le_of_ble_eq_true rfl) rfl]
  exact zt_M_allSteps_4  H
set_option maxRecDepth 20000 in
theorem zt_M_findLaters_245 {a b L N : Nat} {k180 : zS → Int32 → Int32 → Int32 → Int32 → Option (zS)} (hk180 : ∀ {σ : zS} {τ : zT} {v1 : Int32} {v2 : Int32} {v3 : Int32} {v4 : Int32} {o5 : Option Value} {r : zS}, k180 σ v1 v2 v3 v4 = some r → zx_go 0 119 180 [some (.ref 82), some (.int v1), some (.int v2), some (.int v3), some (.int v4), o5] [] ((119, a, b), zx_pk (zK L) 119, σ, τ, zR) = some (none, ((119, a, b), zx_pk (zK L) 119, r, τ, zR))) {σ : zS} {τ : zT} {v1 : Int32} {v2 : Int32} {v3 : Int32} {v4 : Int32} {o5 : Option Value} {r : zS} (H : zb_M_findLaters_245 k180 N σ v1 v2 v3 v4 = some r) : zx_go 0 119 245 [some (.ref 82), some (.int v1), some (.int v2), some (.int v3), some (.int v4), o5] [] ((119, a, b), zx_pk (zK L) 119, σ, τ, zR) = some (none, ((119, a, b), zx_pk (zK L) 119, r, τ, zR)) := by
  unfold zb_M_findLaters_245 at H
  rw [zs_iinc (ls := [some (.ref 82), some (.int v1), some (.int v2), some (.int v3), some (.int v4), o5]) (x := v4) (z := (v4 + 1)) (ls' := [some (.ref 82), some (.int v1), some (.int v2), some (.int v3), some (.int (v4 + 1)), o5]) zd_119_245 rfl rfl rfl]
  rw [zs_goto (t := 180) zd_119_248 rfl]
  exact hk180 H
set_option maxRecDepth 20000 in
theorem zt_M_findLaters_224 {a b L N : Nat} {k180 : zS → Int32 → Int32 → Int32 → Int32 → Option (zS)} (hk180 : ∀ {σ : zS} {τ : zT} {v1 : Int32} {v2 : Int32} {v3 : Int32} {v4 : Int32} {o5 : Option Value} {r : zS}, k180 σ v1 v2 v3 v4 = some r → zx_go 0 119 180 [some (.ref 82), some (.int v1), some (.int v2), some (.int v3), some (.int v4), o5] [] ((119, a, b), zx_pk (zK L) 119, σ, τ, zR) = some (none, ((119, a, b), zx_pk (zK L) 119, r, τ, zR))) {σ : zS} {τ : zT} {v1 : Int32} {v2 : Int32} {v3 : Int32} {v4 : Int32} {v5 : Int32} {r : zS} (H : zb_M_findLaters_224 k180 N σ v1 v2 v3 v4 v5 = some r) : zx_go 0 119 224 [some (.ref 82), some (.int v1), some (.int v2), some (.int v3), some (.int v4), some (.int v5)] [] ((119, a, b), zx_pk (zK L) 119, σ, τ, zR) = some (none, ((119, a, b), zx_pk (zK L) 119, r, τ, zR)) := by
  unfold zb_M_findLaters_224 at H
  rw [zs_aload_n (ls := [some (.ref 82), some (.int v1), some (.int v2), some (.int v3), some (.int v4), some (.int v5)]) zd_119_224 rfl]
  rw [zs_getR (n := 119) (K := zx_pk (zK L) 119) (ρ := zR) (c := 12) (k := 28) (q := 82) (p := 93) zd_119_225 rfl rfl rfl (by decide) rfl]
  rw [zs_iload (ls := [some (.ref 82), some (.int v1), some (.int v2), some (.int v3), some (.int v4), some (.int v5)]) zd_119_228 rfl]
  by_cases c10 : 0 ≤ v5 ∧ v5 < 96
  · rw [if_pos c10] at H
    rw [zp_iaload (n := 119) (K := zx_pk (zK L) 119) (σ := σ) (q := 93) (m := 96) (i := v5) (k := v5.toNatClampNeg) (v := (σ 93 v5.toNatClampNeg)) zd_119_230 rfl (by decide) (zJ_in c10 rfl) rfl rfl]
    rw [zs_iconst (z := 4) zd_119_231 (by decide)]
    rw [zs_iload_n (ls := [some (.ref 82), some (.int v1), some (.int v2), some (.int v3), some (.int v4), some (.int v5)]) zd_119_232 rfl]
    rw [zp_iadd (x := 4) (y := v1) (z := (4 + v1)) zd_119_233 rfl]
    by_cases c11 : ¬ (σ 93 v5.toNatClampNeg) = (4 + v1)
    · rw [if_pos c11] at H
      rw [zp_icmp_ne_t (x := (σ 93 v5.toNatClampNeg)) (y := (4 + v1)) (t := 245) zd_119_234 rfl c11]
      exact zt_M_findLaters_245 (hk180 := hk180) H
    · rw [if_neg c11] at H
      rw [zp_icmp_ne_f (x := (σ 93 v5.toNatClampNeg)) (y := (4 + v1)) (t := 245) zd_119_234 rfl c11]
      rw [zs_aload_n (ls := [some (.ref 82), some (.int v1), some (.int v2), some (.int v3), some (.int v4), some (.int v5)]) zd_119_237 rfl]
      rw [zs_getR (n := 119) (K := zx_pk (zK L) 119) (ρ := zR) (c := 12) (k := 28) (q := 82) (p := 93) zd_119_238 rfl rfl rfl (by decide) rfl]
      rw [zs_iload (ls := [some (.ref 82), some (.int v1), some (.int v2), some (.int v3), some (.int v4), some (.int v5)]) zd_119_241 rfl]
      rw [zs_iload_n (ls := [some (.ref 82), some (.int v1), some (.int v2), some (.int v3), some (.int v4), some (.int v5)]) zd_119_243 rfl]
      by_cases c12 : 0 ≤ v5 ∧ v5 < 96
      · rw [if_pos c12] at H
        rw [zp_iastore (n := 119) (K := zx_pk (zK L) 119) (q := 93) (m := 96) (i := v5) (k := v5.toNatClampNeg) (x := v2) (z := v2) zd_119_244 rfl ⟨by decide, by decide⟩ (zJ_in c12 rfl) rfl rfl]
        exact zt_M_findLaters_245 (hk180 := hk180) H
      · rw [if_neg c12] at H
        cases H
  · rw [if_neg c10] at H
    cases H
set_option maxRecDepth 20000 in
theorem zt_M_findLaters_180 {a b L N : Nat} {k169 : zS → Int32 → Int32 → Int32 → Option (zS)} (hk169 : ∀ {σ : zS} {τ : zT} {v1 : Int32} {v2 : Int32} {v3 : Int32} {o4 : Option Value} {o5 : Option Value} {r : zS}, k169 σ v1 v2 v3 = some r → zx_go 0 119 169 [some (.ref 82), some (.int v1), some (.int v2), some (.int v3), o4, o5] [] ((119, a, b), zx_pk (zK L) 119, σ, τ, zR) = some (none, ((119, a, b), zx_pk (zK L) 119, r, τ, zR))) : ∀ {n : Nat} {σ : zS} {τ : zT} {v1 : Int32} {v2 : Int32} {v3 : Int32} {v4 : Int32} {o5 : Option Value} {r : zS}, zb_M_findLaters_180 k169 N n σ v1 v2 v3 v4 = some r → zx_go 0 119 180 [some (.ref 82), some (.int v1), some (.int v2), some (.int v3), some (.int v4), o5] [] ((119, a, b), zx_pk (zK L) 119, σ, τ, zR) = some (none, ((119, a, b), zx_pk (zK L) 119, r, τ, zR)) := by
  intro n
  induction n with
  | zero =>
    intro _ _ _ _ _ _ _ _ H
    cases H
  | succ n ih =>
    intro σ τ v1 v2 v3 v4 o5 r H
    rw [zb_M_findLaters_180] at H
    rw [zs_iload (ls := [some (.ref 82), some (.int v1), some (.int v2), some (.int v3), some (.int v4), o5]) zd_119_180 rfl]
    rw [zs_aload_n (ls := [some (.ref 82), some (.int v1), some (.int v2), some (.int v3), some (.int v4), o5]) zd_119_182 rfl]
    rw [zs_getR (n := 119) (K := zx_pk (zK L) 119) (ρ := zR) (c := 12) (k := 24) (q := 82) (p := 90) zd_119_183 rfl rfl rfl (by decide) rfl]
    rw [zs_iload_n (ls := [some (.ref 82), some (.int v1), some (.int v2), some (.int v3), some (.int v4), o5]) zd_119_186 rfl]
    by_cases c6 : 0 ≤ v3 ∧ v3 < 4
    · rw [if_pos c6] at H
      rw [zp_iaload (n := 119) (K := zx_pk (zK L) 119) (σ := σ) (q := 90) (m := 4) (i := v3) (k := v3.toNatClampNeg) (v := (σ 90 v3.toNatClampNeg)) zd_119_187 rfl (by decide) (zJ_in c6 rfl) rfl rfl]
      by_cases c7 : (σ 90 v3.toNatClampNeg) ≤ v4
      · rw [if_pos c7] at H
        rw [zp_icmp_ge_t (x := v4) (y := (σ 90 v3.toNatClampNeg)) (t := 251) zd_119_188 rfl c7]
        rw [zs_iinc (ls := [some (.ref 82), some (.int v1), some (.int v2), some (.int v3), some (.int v4), o5]) (x := v3) (z := (v3 + 1)) (ls' := [some (.ref 82), some (.int v1), some (.int v2), some (.int (v3 + 1)), some (.int v4), o5]) zd_119_251 rfl rfl rfl]
        rw [zs_goto (t := 169) zd_119_254 rfl]
        exact hk169 H
      · rw [if_neg c7] at H
        rw [zp_icmp_ge_f (x := v4) (y := (σ 90 v3.toNatClampNeg)) (t := 251) zd_119_188 rfl c7]
        rw [zs_bipush (z := 24) zd_119_191 (by decide)]
        rw [zs_iload_n (ls := [some (.ref 82), some (.int v1), some (.int v2), some (.int v3), some (.int v4), o5]) zd_119_193 rfl]
        rw [zp_imul (x := 24) (y := v3) (z := (24 * v3)) zd_119_194 rfl]
        rw [zs_iload (ls := [some (.ref 82), some (.int v1), some (.int v2), some (.int v3), some (.int v4), o5]) zd_119_195 rfl]
        rw [zp_iadd (x := (24 * v3)) (y := v4) (z := ((24 * v3) + v4)) zd_119_197 rfl]
        rw [zs_istore (x := ((24 * v3) + v4)) (ls' := [some (.ref 82), some (.int v1), some (.int v2), some (.int v3), some (.int v4), some (.int ((24 * v3) + v4))]) zd_119_198 (Nat.le_of_ble_eq_true rfl) rfl]
        rw [zs_aload_n (ls := [some (.ref 82), some (.int v1), some (.int v2), some (.int v3), some (.int v4), some (.int ((24 * v3) + v4))]) zd_119_200 rfl]
        rw [zs_getR (n := 119) (K := zx_pk (zK L) 119) (ρ := zR) (c := 12) (k := 27) (q := 82) (p := 92) zd_119_201 rfl rfl rfl (by decide) rfl]
        rw [zs_iload (ls := [some (.ref 82), some (.int v1), some (.int v2), some (.int v3), some (.int v4), some (.int ((24 * v3) + v4))]) zd_119_204 rfl]
        by_cases c8 : 0 ≤ ((24 * v3) + v4) ∧ ((24 * v3) + v4) < 96
        · rw [if_pos c8] at H
          rw [zp_iaload (n := 119) (K := zx_pk (zK L) 119) (σ := σ) (q := 92) (m := 96) (i := ((24 * v3) + v4)) (k := ((24 * v3) + v4).toNatClampNeg) (v := (σ 92 ((24 * v3) + v4).toNatClampNeg)) zd_119_206 rfl (by decide) (zJ_in c8 rfl) rfl rfl]
          rw [zs_bipush (z := 10) zd_119_207 (by decide)]
          by_cases c9 : (σ 92 ((24 * v3) + v4).toNatClampNeg) = 10
          · rw [if_pos c9] at H
            rw [zp_icmp_eq_t (x := (σ 92 ((24 * v3) + v4).toNatClampNeg)) (y := 10) (t := 224) zd_119_209 rfl c9]
            exact zt_M_findLaters_224 (hk180 := ih) H
          · rw [if_neg c9] at H
            rw [zp_icmp_eq_f (x := (σ 92 ((24 * v3) + v4).toNatClampNeg)) (y := 10) (t := 224) zd_119_209 rfl c9]
            rw [zs_aload_n (ls := [some (.ref 82), some (.int v1), some (.int v2), some (.int v3), some (.int v4), some (.int ((24 * v3) + v4))]) zd_119_212 rfl]
            rw [zs_getR (n := 119) (K := zx_pk (zK L) 119) (ρ := zR) (c := 12) (k := 27) (q := 82) (p := 92) zd_119_213 rfl rfl rfl (by decide) rfl]
            rw [zs_iload (ls := [some (.ref 82), some (.int v1), some (.int v2), some (.int v3), some (.int v4), some (.int ((24 * v3) + v4))]) zd_119_216 rfl]
            by_cases c13 : 0 ≤ ((24 * v3) + v4) ∧ ((24 * v3) + v4) < 96
            · rw [if_pos c13] at H
              rw [zp_iaload (n := 119) (K := zx_pk (zK L) 119) (σ := σ) (q := 92) (m := 96) (i := ((24 * v3) + v4)) (k := ((24 * v3) + v4).toNatClampNeg) (v := (σ 92 ((24 * v3) + v4).toNatClampNeg)) zd_119_218 rfl (by decide) (zJ_in c13 rfl) rfl rfl]
              rw [zs_bipush (z := 11) zd_119_219 (by decide)]
              by_cases c14 : ¬ (σ 92 ((24 * v3) + v4).toNatClampNeg) = 11
              · rw [if_pos c14] at H
                rw [zp_icmp_ne_t (x := (σ 92 ((24 * v3) + v4).toNatClampNeg)) (y := 11) (t := 245) zd_119_221 rfl c14]
                exact zt_M_findLaters_245 (hk180 := ih) H
              · rw [if_neg c14] at H
                rw [zp_icmp_ne_f (x := (σ 92 ((24 * v3) + v4).toNatClampNeg)) (y := 11) (t := 245) zd_119_221 rfl c14]
                exact zt_M_findLaters_224 (hk180 := ih) H
            · rw [if_neg c13] at H
              cases H
        · rw [if_neg c8] at H
          cases H
    · rw [if_neg c6] at H
      cases H
set_option maxRecDepth 20000 in
theorem zt_M_findLaters_169 {a b L N : Nat} {k2 : zS → Int32 → Option (zS)} (hk2 : ∀ {σ : zS} {τ : zT} {v1 : Int32} {o2 : Option Value} {o3 : Option Value} {o4 : Option Value} {o5 : Option Value} {r : zS}, k2 σ v1 = some r → zx_go 0 119 2 [some (.ref 82), some (.int v1), o2, o3, o4, o5] [] ((119, a, b), zx_pk (zK L) 119, σ, τ, zR) = some (none, ((119, a, b), zx_pk (zK L) 119, r, τ, zR))) : ∀ {n : Nat} {σ : zS} {τ : zT} {v1 : Int32} {v2 : Int32} {v3 : Int32} {o4 : Option Value} {o5 : Option Value} {r : zS}, zb_M_findLaters_169 k2 N n σ v1 v2 v3 = some r → zx_go 0 119 169 [some (.ref 82), some (.int v1), some (.int v2), some (.int v3), o4, o5] [] ((119, a, b), zx_pk (zK L) 119, σ, τ, zR) = some (none, ((119, a, b), zx_pk (zK L) 119, r, τ, zR)) := by
  intro n
  induction n with
  | zero =>
    intro _ _ _ _ _ _ _ _ H
    cases H
  | succ n ih =>
    intro σ τ v1 v2 v3 o4 o5 r H
    rw [zb_M_findLaters_169] at H
    rw [zs_iload_n (ls := [some (.ref 82), some (.int v1), some (.int v2), some (.int v3), o4, o5]) zd_119_169 rfl]
    rw [zs_aload_n (ls := [some (.ref 82), some (.int v1), some (.int v2), some (.int v3), o4, o5]) zd_119_170 rfl]
    rw [zp_getI (n := 119) (K := zx_pk (zK L) 119) (σ := σ) (c := 12) (k := 17) (q := 82) (v := (σ 82 17)) zd_119_171 rfl rfl rfl (by decide) rfl]
    by_cases c5 : (σ 82 17) ≤ v3
    · rw [if_pos c5] at H
      rw [zp_icmp_ge_t (x := v3) (y := (σ 82 17)) (t := 257) zd_119_174 rfl c5]
      rw [zs_iinc (ls := [some (.ref 82), some (.int v1), some (.int v2), some (.int v3), o4, o5]) (x := v1) (z := (v1 + 1)) (ls' := [some (.ref 82), some (.int (v1 + 1)), some (.int v2), some (.int v3), o4, o5]) zd_119_257 rfl rfl rfl]
      rw [zs_goto (t := 2) zd_119_260 rfl]
      exact hk2 H
    · rw [if_neg c5] at H
      rw [zp_icmp_ge_f (x := v3) (y := (σ 82 17)) (t := 257) zd_119_174 rfl c5]
      rw [zs_iconst (z := 0) zd_119_177 (by decide)]
      rw [zs_istore (x := 0) (ls' := [some (.ref 82), some (.int v1), some (.int v2), some (.int v3), some (.int 0), o5]) zd_119_178 (Nat.le_of_ble_eq_true rfl) rfl]
      exact zt_M_findLaters_180 (hk169 := ih) H
set_option maxRecDepth 20000 in
theorem zt_M_findLaters_167 {a b L N : Nat} {k2 : zS → Int32 → Option (zS)} (hk2 : ∀ {σ : zS} {τ : zT} {v1 : Int32} {o2 : Option Value} {o3 : Option Value} {o4 : Option Value} {o5 : Option Value} {r : zS}, k2 σ v1 = some r → zx_go 0 119 2 [some (.ref 82), some (.int v1), o2, o3, o4, o5] [] ((119, a, b), zx_pk (zK L) 119, σ, τ, zR) = some (none, ((119, a, b), zx_pk (zK L) 119, r, τ, zR))) {σ : zS} {τ : zT} {v1 : Int32} {v2 : Int32} {o3 : Option Value} {o4 : Option Value} {o5 : Option Value} {r : zS} (H : zb_M_findLaters_167 k2 N σ v1 v2 = some r) : zx_go 0 119 167 [some (.ref 82), some (.int v1), some (.int v2), o3, o4, o5] [] ((119, a, b), zx_pk (zK L) 119, σ, τ, zR) = some (none, ((119, a, b), zx_pk (zK L) 119, r, τ, zR)) := by
  unfold zb_M_findLaters_167 at H
  rw [zs_iconst (z := 0) zd_119_167 (by decide)]
  rw [zs_istore_n (x := 0) (ls' := [some (.ref 82), some (.int v1), some (.int v2), some (.int 0), o4, o5]) zd_119_168 (Nat.le_of_ble_eq_true rfl) rfl]
  exact zt_M_findLaters_169 (hk2 := hk2) H
set_option maxRecDepth 20000 in
theorem zt_M_findLaters_135 {a b L N : Nat} {k21 : zS → Int32 → Int32 → Int32 → Option (zS)} (hk21 : ∀ {σ : zS} {τ : zT} {v1 : Int32} {v2 : Int32} {v3 : Int32} {o4 : Option Value} {o5 : Option Value} {r : zS}, k21 σ v1 v2 v3 = some r → zx_go 0 119 21 [some (.ref 82), some (.int v1), some (.int v2), some (.int v3), o4, o5] [] ((119, a, b), zx_pk (zK L) 119, σ, τ, zR) = some (none, ((119, a, b), zx_pk (zK L) 119, r, τ, zR))) {σ : zS} {τ : zT} {v1 : Int32} {v3 : Int32} {s0 : Int32} {o2 : Option Value} {o4 : Option Value} {o5 : Option Value} {r : zS} (H : zb_M_findLaters_135 k21 N σ v1 v3 s0 = some r) : zx_go 0 119 135 [some (.ref 82), some (.int v1), o2, some (.int v3), o4, o5] [.int s0] ((119, a, b), zx_pk (zK L) 119, σ, τ, zR) = some (none, ((119, a, b), zx_pk (zK L) 119, r, τ, zR)) := by
  unfold zb_M_findLaters_135 at H
  rw [zs_istore_n (x := s0) (ls' := [some (.ref 82), some (.int v1), some (.int s0), some (.int v3), o4, o5]) zd_119_135 (Nat.le_of_ble_eq_true rfl) rfl]
  rw [zs_iinc (ls := [some (.ref 82), some (.int v1), some (.int s0), some (.int v3), o4, o5]) (x := v3) (z := (v3 + 1)) (ls' := [some (.ref 82), some (.int v1), some (.int s0), some (.int (v3 + 1)), o4, o5]) zd_119_136 rfl rfl rfl]
  rw [zs_goto (t := 21) zd_119_139 rfl]
  exact hk21 H
set_option maxRecDepth 20000 in
theorem zt_M_findLaters_125 {a b L N : Nat} {k21 : zS → Int32 → Int32 → Int32 → Option (zS)} (hk21 : ∀ {σ : zS} {τ : zT} {v1 : Int32} {v2 : Int32} {v3 : Int32} {o4 : Option Value} {o5 : Option Value} {r : zS}, k21 σ v1 v2 v3 = some r → zx_go 0 119 21 [some (.ref 82), some (.int v1), some (.int v2), some (.int v3), o4, o5] [] ((119, a, b), zx_pk (zK L) 119, σ, τ, zR) = some (none, ((119, a, b), zx_pk (zK L) 119, r, τ, zR))) {σ : zS} {τ : zT} {v1 : Int32} {v2 : Int32} {v3 : Int32} {v4 : Int32} {o5 : Option Value} {r : zS} (H : zb_M_findLaters_125 k21 N σ v1 v2 v3 v4 = some r) : zx_go 0 119 125 [some (.ref 82), some (.int v1), some (.int v2), some (.int v3), some (.int v4), o5] [] ((119, a, b), zx_pk (zK L) 119, σ, τ, zR) = some (none, ((119, a, b), zx_pk (zK L) 119, r, τ, zR)) := by
  unfold zb_M_findLaters_125 at H
  rw [zs_iload (ls := [some (.ref 82), some (.int v1), some (.int v2), some (.int v3), some (.int v4), o5]) zd_119_125 rfl]
  by_cases c21 : v4 = 0
  · rw [if_pos c21] at H
    rw [zp_if_eq_t (x := v4) (t := 134) zd_119_127 rfl c21]
    rw [zs_iload_n (ls := [some (.ref 82), some (.int v1), some (.int v2), some (.int v3), some (.int v4), o5]) zd_119_134 rfl]
    exact zt_M_findLaters_135 (hk21 := hk21) H
  · rw [if_neg c21] at H
    rw [zp_if_eq_f (x := v4) (t := 134) zd_119_127 rfl c21]
    rw [zs_iload_n (ls := [some (.ref 82), some (.int v1), some (.int v2), some (.int v3), some (.int v4), o5]) zd_119_130 rfl]
    rw [zs_goto (t := 135) zd_119_131 rfl]
    exact zt_M_findLaters_135 (hk21 := hk21) H
set_option maxRecDepth 20000 in
theorem zt_M_findLaters_117 {a b L N : Nat} {k60 : zS → Int32 → Int32 → Int32 → Int32 → Int32 → Option (zS)} (hk60 : ∀ {σ : zS} {τ : zT} {v1 : Int32} {v2 : Int32} {v3 : Int32} {v4 : Int32} {v5 : Int32} {r : zS}, k60 σ v1 v2 v3 v4 v5 = some r → zx_go 0 119 60 [some (.ref 82), some (.int v1), some (.int v2), some (.int v3), some (.int v4), some (.int v5)] [] ((119, a, b), zx_pk (zK L) 119, σ, τ, zR) = some (none, ((119, a, b), zx_pk (zK L) 119, r, τ, zR))) {σ : zS} {τ : zT} {v1 : Int32} {v2 : Int32} {v3 : Int32} {v5 : Int32} {s0 : Int32} {o4 : Option Value} {r : zS} (H : zb_M_findLaters_117 k60 N σ v1 v2 v3 v5 s0 = some r) : zx_go 0 119 117 [some (.ref 82), some (.int v1), some (.int v2), some (.int v3), o4, some (.int v5)] [.int s0] ((119, a, b), zx_pk (zK L) 119, σ, τ, zR) = some (none, ((119, a, b), zx_pk (zK L) 119, r, τ, zR)) := by
  unfold zb_M_findLaters_117 at H
  rw [zs_istore (x := s0) (ls' := [some (.ref 82), some (.int v1), some (.int v2), some (.int v3), some (.int s0), some (.int v5)]) zd_119_117 (Nat.le_of_ble_eq_true rfl) rfl]
  rw [zs_iinc (ls := [some (.ref 82), some (.int v1), some (.int v2), some (.int v3), some (.int s0), some (.int v5)]) (x := v5) (z := (v5 + 1)) (ls' := [some (.ref 82), some (.int v1), some (.int v2), some (.int v3), some (.int s0), some (.int (v5 + 1))]) zd_119_119 rfl rfl rfl]
  rw [zs_goto (t := 60) zd_119_122 rfl]
  exact hk60 H
set_option maxRecDepth 20000 in
theorem zt_M_findLaters_60 {a b L N : Nat} {k21 : zS → Int32 → Int32 → Int32 → Option (zS)} (hk21 : ∀ {σ : zS} {τ : zT} {v1 : Int32} {v2 : Int32} {v3 : Int32} {o4 : Option Value} {o5 : Option Value} {r : zS}, k21 σ v1 v2 v3 = some r → zx_go 0 119 21 [some (.ref 82), some (.int v1), some (.int v2), some (.int v3), o4, o5] [] ((119, a, b), zx_pk (zK L) 119, σ, τ, zR) = some (none, ((119, a, b), zx_pk (zK L) 119, r, τ, zR))) : ∀ {n : Nat} {σ : zS} {τ : zT} {v1 : Int32} {v2 : Int32} {v3 : Int32} {v4 : Int32} {v5 : Int32} {r : zS}, zb_M_findLaters_60 k21 N n σ v1 v2 v3 v4 v5 = some r → zx_go 0 119 60 [some (.ref 82), some (.int v1), some (.int v2), some (.int v3), some (.int v4), some (.int v5)] [] ((119, a, b), zx_pk (zK L) 119, σ, τ, zR) = some (none, ((119, a, b), zx_pk (zK L) 119, r, τ, zR)) := by
  intro n
  induction n with
  | zero =>
    intro _ _ _ _ _ _ _ _ H
    cases H
  | succ n ih =>
    intro σ τ v1 v2 v3 v4 v5 r H
    rw [zb_M_findLaters_60] at H
    rw [zs_iload (ls := [some (.ref 82), some (.int v1), some (.int v2), some (.int v3), some (.int v4), some (.int v5)]) zd_119_60 rfl]
    rw [zs_aload_n (ls := [some (.ref 82), some (.int v1), some (.int v2), some (.int v3), some (.int v4), some (.int v5)]) zd_119_62 rfl]
    rw [zs_getR (n := 119) (K := zx_pk (zK L) 119) (ρ := zR) (c := 12) (k := 14) (q := 82) (p := 86) zd_119_63 rfl rfl rfl (by decide) rfl]
    rw [zs_bipush (z := 17) zd_119_66 (by decide)]
    rw [zs_iload_n (ls := [some (.ref 82), some (.int v1), some (.int v2), some (.int v3), some (.int v4), some (.int v5)]) zd_119_68 rfl]
    rw [zp_iadd (x := 17) (y := v1) (z := (17 + v1)) zd_119_69 rfl]
    by_cases c19 : 0 ≤ (17 + v1) ∧ (17 + v1) < 200
    · rw [if_pos c19] at H
      rw [zp_iaload (n := 119) (K := zx_pk (zK L) 119) (σ := σ) (q := 86) (m := 200) (i := (17 + v1)) (k := (17 + v1).toNatClampNeg) (v := (σ 86 (17 + v1).toNatClampNeg)) zd_119_70 rfl (by decide) (zJ_in c19 rfl) rfl rfl]
      by_cases c20 : (σ 86 (17 + v1).toNatClampNeg) ≤ v5
      · rw [if_pos c20] at H
        rw [zp_icmp_ge_t (x := v5) (y := (σ 86 (17 + v1).toNatClampNeg)) (t := 125) zd_119_71 rfl c20]
        exact zt_M_findLaters_125 (hk21 := hk21) H
      · rw [if_neg c20] at H
        rw [zp_icmp_ge_f (x := v5) (y := (σ 86 (17 + v1).toNatClampNeg)) (t := 125) zd_119_71 rfl c20]
        rw [zs_iload (ls := [some (.ref 82), some (.int v1), some (.int v2), some (.int v3), some (.int v4), some (.int v5)]) zd_119_74 rfl]
        by_cases c22 : v4 = 0
        · rw [if_pos c22] at H
          rw [zp_if_eq_t (x := v4) (t := 125) zd_119_76 rfl c22]
          exact zt_M_findLaters_125 (hk21 := hk21) H
        · rw [if_neg c22] at H
          rw [zp_if_eq_f (x := v4) (t := 125) zd_119_76 rfl c22]
          rw [zs_aload_n (ls := [some (.ref 82), some (.int v1), some (.int v2), some (.int v3), some (.int v4), some (.int v5)]) zd_119_79 rfl]
          rw [zs_getR (n := 119) (K := zx_pk (zK L) 119) (ρ := zR) (c := 12) (k := 13) (q := 82) (p := 85) zd_119_80 rfl rfl rfl (by decide) rfl]
          rw [zs_bipush (z := 6) zd_119_83 (by decide)]
          rw [zs_bipush (z := 10) zd_119_85 (by decide)]
          rw [zs_iload_n (ls := [some (.ref 82), some (.int v1), some (.int v2), some (.int v3), some (.int v4), some (.int v5)]) zd_119_87 rfl]
          rw [zp_iadd (x := 10) (y := v3) (z := (10 + v3)) zd_119_88 rfl]
          rw [zp_imul (x := 6) (y := (10 + v3)) (z := (6 * (10 + v3))) zd_119_89 rfl]
          rw [zs_iload (ls := [some (.ref 82), some (.int v1), some (.int v2), some (.int v3), some (.int v4), some (.int v5)]) zd_119_90 rfl]
          rw [zp_iadd (x := (6 * (10 + v3))) (y := v5) (z := ((6 * (10 + v3)) + v5)) zd_119_92 rfl]
          by_cases c23 : 0 ≤ ((6 * (10 + v3)) + v5) ∧ ((6 * (10 + v3)) + v5) < 1200
          · rw [if_pos c23] at H
            rw [zp_baload (n := 119) (K := zx_pk (zK L) 119) (σ := σ) (q := 85) (m := 1200) (i := ((6 * (10 + v3)) + v5)) (k := ((6 * (10 + v3)) + v5).toNatClampNeg) (v := (σ 85 ((6 * (10 + v3)) + v5).toNatClampNeg)) zd_119_93 rfl (by decide) (zJ_in c23 rfl) rfl rfl]
            rw [zs_aload_n (ls := [some (.ref 82), some (.int v1), some (.int v2), some (.int v3), some (.int v4), some (.int v5)]) zd_119_94 rfl]
            rw [zs_getR (n := 119) (K := zx_pk (zK L) 119) (ρ := zR) (c := 12) (k := 13) (q := 82) (p := 85) zd_119_95 rfl rfl rfl (by decide) rfl]
            rw [zs_bipush (z := 6) zd_119_98 (by decide)]
            rw [zs_bipush (z := 17) zd_119_100 (by decide)]
            rw [zs_iload_n (ls := [some (.ref 82), some (.int v1), some (.int v2), some (.int v3), some (.int v4), some (.int v5)]) zd_119_102 rfl]
            rw [zp_iadd (x := 17) (y := v1) (z := (17 + v1)) zd_119_103 rfl]
            rw [zp_imul (x := 6) (y := (17 + v1)) (z := (6 * (17 + v1))) zd_119_104 rfl]
            rw [zs_iload (ls := [some (.ref 82), some (.int v1), some (.int v2), some (.int v3), some (.int v4), some (.int v5)]) zd_119_105 rfl]
            rw [zp_iadd (x := (6 * (17 + v1))) (y := v5) (z := ((6 * (17 + v1)) + v5)) zd_119_107 rfl]
            by_cases c24 : 0 ≤ ((6 * (17 + v1)) + v5) ∧ ((6 * (17 + v1)) + v5) < 1200
            · rw [if_pos c24] at H
              rw [zp_baload (n := 119) (K := zx_pk (zK L) 119) (σ := σ) (q := 85) (m := 1200) (i := ((6 * (17 + v1)) + v5)) (k := ((6 * (17 + v1)) + v5).toNatClampNeg) (v := (σ 85 ((6 * (17 + v1)) + v5).toNatClampNeg)) zd_119_108 rfl (by decide) (zJ_in c24 rfl) rfl rfl]
              by_cases c25 : ¬ (σ 85 ((6 * (10 + v3)) + v5).toNatClampNeg) = (σ 85 ((6 * (17 + v1)) + v5).toNatClampNeg)
              · rw [if_pos c25] at H
                rw [zp_icmp_ne_t (x := (σ 85 ((6 * (10 + v3)) + v5).toNatClampNeg)) (y := (σ 85 ((6 * (17 + v1)) + v5).toNatClampNeg)) (t := 116) zd_119_109 rfl c25]
                rw [zs_iconst (z := 0) zd_119_116 (by decide)]
                exact zt_M_findLaters_117 (hk60 := ih) H
              · rw [if_neg c25] at H
                rw [zp_icmp_ne_f (x := (σ 85 ((6 * (10 + v3)) + v5).toNatClampNeg)) (y := (σ 85 ((6 * (17 + v1)) + v5).toNatClampNeg)) (t := 116) zd_119_109 rfl c25]
                rw [zs_iconst (z := 1) zd_119_112 (by decide)]
                rw [zs_goto (t := 117) zd_119_113 rfl]
                exact zt_M_findLaters_117 (hk60 := ih) H
            · rw [if_neg c24] at H
              cases H
          · rw [if_neg c23] at H
            cases H
    · rw [if_neg c19] at H
      cases H
set_option maxRecDepth 20000 in
theorem zt_M_findLaters_55 {a b L N : Nat} {k21 : zS → Int32 → Int32 → Int32 → Option (zS)} (hk21 : ∀ {σ : zS} {τ : zT} {v1 : Int32} {v2 : Int32} {v3 : Int32} {o4 : Option Value} {o5 : Option Value} {r : zS}, k21 σ v1 v2 v3 = some r → zx_go 0 119 21 [some (.ref 82), some (.int v1), some (.int v2), some (.int v3), o4, o5] [] ((119, a, b), zx_pk (zK L) 119, σ, τ, zR) = some (none, ((119, a, b), zx_pk (zK L) 119, r, τ, zR))) {σ : zS} {τ : zT} {v1 : Int32} {v2 : Int32} {v3 : Int32} {s0 : Int32} {o4 : Option Value} {o5 : Option Value} {r : zS} (H : zb_M_findLaters_55 k21 N σ v1 v2 v3 s0 = some r) : zx_go 0 119 55 [some (.ref 82), some (.int v1), some (.int v2), some (.int v3), o4, o5] [.int s0] ((119, a, b), zx_pk (zK L) 119, σ, τ, zR) = some (none, ((119, a, b), zx_pk (zK L) 119, r, τ, zR)) := by
  unfold zb_M_findLaters_55 at H
  rw [zs_istore (x := s0) (ls' := [some (.ref 82), some (.int v1), some (.int v2), some (.int v3), some (.int s0), o5]) zd_119_55 (Nat.le_of_ble_eq_true rfl) rfl]
  rw [zs_iconst (z := 0) zd_119_57 (by decide)]
  rw [zs_istore (x := 0) (ls' := [some (.ref 82), some (.int v1), some (.int v2), some (.int v3), some (.int s0), some (.int 0)]) zd_119_58 (Nat.le_of_ble_eq_true rfl) rfl]
  exact zt_M_findLaters_60 (hk21 := hk21) H
set_option maxRecDepth 20000 in
theorem zt_M_findLaters_21 {a b L N : Nat} {k2 : zS → Int32 → Option (zS)} (hk2 : ∀ {σ : zS} {τ : zT} {v1 : Int32} {o2 : Option Value} {o3 : Option Value} {o4 : Option Value} {o5 : Option Value} {r : zS}, k2 σ v1 = some r → zx_go 0 119 2 [some (.ref 82), some (.int v1), o2, o3, o4, o5] [] ((119, a, b), zx_pk (zK L) 119, σ, τ, zR) = some (none, ((119, a, b), zx_pk (zK L) 119, r, τ, zR))) : ∀ {n : Nat} {σ : zS} {τ : zT} {v1 : Int32} {v2 : Int32} {v3 : Int32} {o4 : Option Value} {o5 : Option Value} {r : zS}, zb_M_findLaters_21 k2 N n σ v1 v2 v3 = some r → zx_go 0 119 21 [some (.ref 82), some (.int v1), some (.int v2), some (.int v3), o4, o5] [] ((119, a, b), zx_pk (zK L) 119, σ, τ, zR) = some (none, ((119, a, b), zx_pk (zK L) 119, r, τ, zR)) := by
  intro n
  induction n with
  | zero =>
    intro _ _ _ _ _ _ _ _ H
    cases H
  | succ n ih =>
    intro σ τ v1 v2 v3 o4 o5 r H
    rw [zb_M_findLaters_21] at H
    rw [zs_iload_n (ls := [some (.ref 82), some (.int v1), some (.int v2), some (.int v3), o4, o5]) zd_119_21 rfl]
    rw [zs_aload_n (ls := [some (.ref 82), some (.int v1), some (.int v2), some (.int v3), o4, o5]) zd_119_22 rfl]
    rw [zp_getI (n := 119) (K := zx_pk (zK L) 119) (σ := σ) (c := 12) (k := 17) (q := 82) (v := (σ 82 17)) zd_119_23 rfl rfl rfl (by decide) rfl]
    by_cases c3 : (σ 82 17) ≤ v3
    · rw [if_pos c3] at H
      rw [zp_icmp_ge_t (x := v3) (y := (σ 82 17)) (t := 142) zd_119_26 rfl c3]
      rw [zs_iload_n (ls := [some (.ref 82), some (.int v1), some (.int v2), some (.int v3), o4, o5]) zd_119_142 rfl]
      rw [zs_iconst (z := (-1)) zd_119_143 (by decide)]
      by_cases c4 : ¬ v2 = (-1)
      · rw [if_pos c4] at H
        rw [zp_icmp_ne_t (x := v2) (y := (-1)) (t := 167) zd_119_144 rfl c4]
        exact zt_M_findLaters_167 (hk2 := hk2) H
      · rw [if_neg c4] at H
        rw [zp_icmp_ne_f (x := v2) (y := (-1)) (t := 167) zd_119_144 rfl c4]
        rw [zs_aload_n (ls := [some (.ref 82), some (.int v1), some (.int v2), some (.int v3), o4, o5]) zd_119_147 rfl]
        rw [zs_iconst (z := 1) zd_119_148 (by decide)]
        rw [zs_putZ (n := 119) (K := zx_pk (zK L) 119) (c := 12) (k := 9) (q := 82) (x := 1) zd_119_149 rfl rfl (by decide +kernel) rfl (by decide) rfl]
        rw [zs_aload_n (ls := [some (.ref 82), some (.int v1), some (.int v2), some (.int v3), o4, o5]) zd_119_152 rfl]
        rw [zs_iconst (z := 5) zd_119_153 (by decide)]
        rw [zs_putI (n := 119) (K := zx_pk (zK L) 119) (c := 12) (k := 10) (q := 82) (x := 5) zd_119_154 rfl rfl (by decide +kernel) rfl (by decide)]
        rw [zs_aload_n (ls := [some (.ref 82), some (.int v1), some (.int v2), some (.int v3), o4, o5]) zd_119_157 rfl]
        rw [zs_aload_n (ls := [some (.ref 82), some (.int v1), some (.int v2), some (.int v3), o4, o5]) zd_119_158 rfl]
        rw [zs_getR (n := 119) (K := zx_pk (zK L) 119) (ρ := zR) (c := 12) (k := 20) (q := 82) (p := 87) zd_119_159 rfl rfl rfl (by decide) rfl]
        rw [zs_iload_n (ls := [some (.ref 82), some (.int v1), some (.int v2), some (.int v3), o4, o5]) zd_119_162 rfl]
        by_cases c15 : 0 ≤ v1 ∧ v1 < 128
        · rw [if_pos c15] at H
          rw [zp_iaload (n := 119) (K := zx_pk (zK L) 119) (σ := (zx_up (zx_up σ 82 9 1) 82 10 5)) (q := 87) (m := 128) (i := v1) (k := v1.toNatClampNeg) (v := (σ 87 v1.toNatClampNeg)) zd_119_163 rfl (by decide) (zJ_in c15 rfl) rfl (show ((zx_up (zx_up σ 82 9 1) 82 10 5) : zS) 87 v1.toNatClampNeg = (σ 87 v1.toNatClampNeg) from ((zx_up_ne (by decide)).trans ((zx_up_ne (by decide)).trans rfl)))]
          rw [zs_putI (n := 119) (K := zx_pk (zK L) 119) (c := 12) (k := 11) (q := 82) (x := (σ 87 v1.toNatClampNeg)) zd_119_164 rfl rfl (by decide +kernel) rfl (by decide)]
          exact zt_M_findLaters_167 (hk2 := hk2) H
        · rw [if_neg c15] at H
          cases H
    · rw [if_neg c3] at H
      rw [zp_icmp_ge_f (x := v3) (y := (σ 82 17)) (t := 142) zd_119_26 rfl c3]
      rw [zs_aload_n (ls := [some (.ref 82), some (.int v1), some (.int v2), some (.int v3), o4, o5]) zd_119_29 rfl]
      rw [zs_getR (n := 119) (K := zx_pk (zK L) 119) (ρ := zR) (c := 12) (k := 14) (q := 82) (p := 86) zd_119_30 rfl rfl rfl (by decide) rfl]
      rw [zs_bipush (z := 10) zd_119_33 (by decide)]
      rw [zs_iload_n (ls := [some (.ref 82), some (.int v1), some (.int v2), some (.int v3), o4, o5]) zd_119_35 rfl]
      rw [zp_iadd (x := 10) (y := v3) (z := (10 + v3)) zd_119_36 rfl]
      by_cases c16 : 0 ≤ (10 + v3) ∧ (10 + v3) < 200
      · rw [if_pos c16] at H
        rw [zp_iaload (n := 119) (K := zx_pk (zK L) 119) (σ := σ) (q := 86) (m := 200) (i := (10 + v3)) (k := (10 + v3).toNatClampNeg) (v := (σ 86 (10 + v3).toNatClampNeg)) zd_119_37 rfl (by decide) (zJ_in c16 rfl) rfl rfl]
        rw [zs_aload_n (ls := [some (.ref 82), some (.int v1), some (.int v2), some (.int v3), o4, o5]) zd_119_38 rfl]
        rw [zs_getR (n := 119) (K := zx_pk (zK L) 119) (ρ := zR) (c := 12) (k := 14) (q := 82) (p := 86) zd_119_39 rfl rfl rfl (by decide) rfl]
        rw [zs_bipush (z := 17) zd_119_42 (by decide)]
        rw [zs_iload_n (ls := [some (.ref 82), some (.int v1), some (.int v2), some (.int v3), o4, o5]) zd_119_44 rfl]
        rw [zp_iadd (x := 17) (y := v1) (z := (17 + v1)) zd_119_45 rfl]
        by_cases c17 : 0 ≤ (17 + v1) ∧ (17 + v1) < 200
        · rw [if_pos c17] at H
          rw [zp_iaload (n := 119) (K := zx_pk (zK L) 119) (σ := σ) (q := 86) (m := 200) (i := (17 + v1)) (k := (17 + v1).toNatClampNeg) (v := (σ 86 (17 + v1).toNatClampNeg)) zd_119_46 rfl (by decide) (zJ_in c17 rfl) rfl rfl]
          by_cases c18 : ¬ (σ 86 (10 + v3).toNatClampNeg) = (σ 86 (17 + v1).toNatClampNeg)
          · rw [if_pos c18] at H
            rw [zp_icmp_ne_t (x := (σ 86 (10 + v3).toNatClampNeg)) (y := (σ 86 (17 + v1).toNatClampNeg)) (t := 54) zd_119_47 rfl c18]
            rw [zs_iconst (z := 0) zd_119_54 (by decide)]
            exact zt_M_findLaters_55 (hk21 := ih) H
          · rw [if_neg c18] at H
            rw [zp_icmp_ne_f (x := (σ 86 (10 + v3).toNatClampNeg)) (y := (σ 86 (17 + v1).toNatClampNeg)) (t := 54) zd_119_47 rfl c18]
            rw [zs_iconst (z := 1) zd_119_50 (by decide)]
            rw [zs_goto (t := 55) zd_119_51 rfl]
            exact zt_M_findLaters_55 (hk21 := ih) H
        · rw [if_neg c17] at H
          cases H
      · rw [if_neg c16] at H
        cases H
set_option maxRecDepth 20000 in
theorem zt_M_findLaters_2 {a b L N : Nat} : ∀ {n : Nat} {σ : zS} {τ : zT} {v1 : Int32} {o2 : Option Value} {o3 : Option Value} {o4 : Option Value} {o5 : Option Value} {r : zS}, zb_M_findLaters_2 N n σ v1 = some r → zx_go 0 119 2 [some (.ref 82), some (.int v1), o2, o3, o4, o5] [] ((119, a, b), zx_pk (zK L) 119, σ, τ, zR) = some (none, ((119, a, b), zx_pk (zK L) 119, r, τ, zR)) := by
  intro n
  induction n with
  | zero =>
    intro _ _ _ _ _ _ _ _ H
    cases H
  | succ n ih =>
    intro σ τ v1 o2 o3 o4 o5 r H
    rw [zb_M_findLaters_2] at H
    rw [zs_iload_n (ls := [some (.ref 82), some (.int v1), o2, o3, o4, o5]) zd_119_2 rfl]
    rw [zs_aload_n (ls := [some (.ref 82), some (.int v1), o2, o3, o4, o5]) zd_119_3 rfl]
    rw [zp_getI (n := 119) (K := zx_pk (zK L) 119) (σ := σ) (c := 12) (k := 19) (q := 82) (v := (σ 82 19)) zd_119_4 rfl rfl rfl (by decide) rfl]
    by_cases c1 : (σ 82 19) ≤ v1
    · rw [if_pos c1] at H
      rw [zp_icmp_ge_t (x := v1) (y := (σ 82 19)) (t := 263) zd_119_7 rfl c1]
      have H := Option.some.inj H
      subst H
      exact zs_return zd_119_263 (by decide +kernel)
    · rw [if_neg c1] at H
      rw [zp_icmp_ge_f (x := v1) (y := (σ 82 19)) (t := 263) zd_119_7 rfl c1]
      rw [zs_aload_n (ls := [some (.ref 82), some (.int v1), o2, o3, o4, o5]) zd_119_10 rfl]
      rw [zp_getZ (n := 119) (K := zx_pk (zK L) 119) (σ := σ) (c := 12) (k := 9) (q := 82) (v := (σ 82 9)) zd_119_11 rfl rfl rfl (by decide) rfl]
      by_cases c2 : ¬ (σ 82 9) = 0
      · rw [if_pos c2] at H
        rw [zp_if_ne_t (x := (σ 82 9)) (t := 263) zd_119_14 rfl c2]
        have H := Option.some.inj H
        subst H
        exact zs_return zd_119_263 (by decide +kernel)
      · rw [if_neg c2] at H
        rw [zp_if_ne_f (x := (σ 82 9)) (t := 263) zd_119_14 rfl c2]
        rw [zs_iconst (z := (-1)) zd_119_17 (by decide)]
        rw [zs_istore_n (x := (-1)) (ls' := [some (.ref 82), some (.int v1), some (.int (-1)), o3, o4, o5]) zd_119_18 (Nat.le_of_ble_eq_true rfl) rfl]
        rw [zs_iconst (z := 0) zd_119_19 (by decide)]
        rw [zs_istore_n (x := 0) (ls' := [some (.ref 82), some (.int v1), some (.int (-1)), some (.int 0), o4, o5]) zd_119_20 (Nat.le_of_ble_eq_true rfl) rfl]
        exact zt_M_findLaters_21 (hk2 := ih) H
set_option maxRecDepth 20000 in
theorem zt_M_findLaters {a b L N : Nat} {σ : zS} {τ : zT} {r : zS} (H : zf_M_findLaters N σ = some r) : zx_go 0 119 0 [some (.ref 82), none, none, none, none, none] [] ((119, a, b), zx_pk (zK L) 119, σ, τ, zR) = some (none, ((119, a, b), zx_pk (zK L) 119, r, τ, zR)) := by
  unfold zf_M_findLaters at H
  rw [zs_iconst (z := 0) zd_119_0 (by decide)]
  rw [zs_istore_n (x := 0) (ls' := [some (.ref 82), some (.int 0), none, none, none, none]) zd_119_1 (Nat.le_of_ble_eq_true rfl) rfl]
  exact zt_M_findLaters_2  H
set_option maxRecDepth 20000 in
theorem zt_M_fail {a b L : Nat} {σ : zS} {τ : zT} {x1 : Int32} {r : zS} (H : zf_M_fail σ x1 = some r) : zx_go 0 94 0 [some (.ref 82), some (.int x1)] [] ((119, a, b), zx_pk (zK L) 119, σ, τ, zR) = some (none, ((119, a, b), zx_pk (zK L) 119, r, τ, zR)) := by
  unfold zf_M_fail at H
  rw [zs_aload_n (ls := [some (.ref 82), some (.int x1)]) zd_94_0 rfl]
  rw [zp_getZ (n := 119) (K := zx_pk (zK L) 119) (σ := σ) (c := 12) (k := 9) (q := 82) (v := (σ 82 9)) zd_94_1 rfl rfl rfl (by decide) rfl]
  by_cases c1 : ¬ (σ 82 9) = 0
  · rw [if_pos c1] at H
    rw [zp_if_ne_t (x := (σ 82 9)) (t := 25) zd_94_4 rfl c1]
    have H := Option.some.inj H
    subst H
    exact zs_return zd_94_25 (by decide +kernel)
  · rw [if_neg c1] at H
    rw [zp_if_ne_f (x := (σ 82 9)) (t := 25) zd_94_4 rfl c1]
    rw [zs_aload_n (ls := [some (.ref 82), some (.int x1)]) zd_94_7 rfl]
    rw [zs_iconst (z := 1) zd_94_8 (by decide)]
    rw [zs_putZ (n := 119) (K := zx_pk (zK L) 119) (c := 12) (k := 9) (q := 82) (x := 1) zd_94_9 rfl rfl (by decide +kernel) rfl (by decide) rfl]
    rw [zs_aload_n (ls := [some (.ref 82), some (.int x1)]) zd_94_12 rfl]
    rw [zs_iload_n (ls := [some (.ref 82), some (.int x1)]) zd_94_13 rfl]
    rw [zs_putI (n := 119) (K := zx_pk (zK L) 119) (c := 12) (k := 10) (q := 82) (x := x1) zd_94_14 rfl rfl (by decide +kernel) rfl (by decide)]
    rw [zs_aload_n (ls := [some (.ref 82), some (.int x1)]) zd_94_17 rfl]
    rw [zs_aload_n (ls := [some (.ref 82), some (.int x1)]) zd_94_18 rfl]
    rw [zp_getI (n := 119) (K := zx_pk (zK L) 119) (σ := (zx_up (zx_up σ 82 9 1) 82 10 x1)) (c := 12) (k := 5) (q := 82) (v := (σ 82 5)) zd_94_19 rfl rfl rfl (by decide) (show ((zx_up (zx_up σ 82 9 1) 82 10 x1) : zS) 82 5 = (σ 82 5) from ((zx_up_nj (by decide)).trans ((zx_up_nj (by decide)).trans rfl)))]
    rw [zs_putI (n := 119) (K := zx_pk (zK L) 119) (c := 12) (k := 11) (q := 82) (x := (σ 82 5)) zd_94_22 rfl rfl (by decide +kernel) rfl (by decide)]
    have H := Option.some.inj H
    subst H
    exact zs_return zd_94_25 (by decide +kernel)
set_option maxRecDepth 20000 in
theorem zt_M_cannot_14 {a b L : Nat} {σ : zS} {τ : zT} {s0 : Int32} {o0 : Option Value} {r : zS} (H : zb_M_cannot_14 σ s0 = some r) : zx_go 1 93 14 [o0] [.int s0, .ref 82] ((119, a, b), zx_pk (zK L) 119, σ, τ, zR) = some (none, ((119, a, b), zx_pk (zK L) 119, r, τ, zR)) := by
  unfold zb_M_cannot_14 at H
  obtain ⟨r2, hr2, H⟩ := Option.bind_eq_some_iff.mp H
  rw [zp_callVv (st := [.int s0, .ref 82]) (as := [.ref 82, .int s0]) (rest := []) (e := 0) zd_93_14 rfl (by decide +kernel) (by decide) rfl rfl (Nat.le_of_ble_eq_true rfl) (zx_rcb_ok rfl (show 82 < 119 by decide)) (Nat.le_of_ble_eq_true rfl) rfl (by decide) (zt_M_fail hr2)]
  have H := Option.some.inj H
  subst H
  exact zs_return zd_93_17 (by decide +kernel)
set_option maxRecDepth 20000 in
theorem zt_M_cannot {a b L : Nat} {σ : zS} {τ : zT} {r : zS} (H : zf_M_cannot σ = some r) : zx_go 1 93 0 [some (.ref 82)] [] ((119, a, b), zx_pk (zK L) 119, σ, τ, zR) = some (none, ((119, a, b), zx_pk (zK L) 119, r, τ, zR)) := by
  unfold zf_M_cannot at H
  rw [zs_aload_n (ls := [some (.ref 82)]) zd_93_0 rfl]
  rw [zs_aload_n (ls := [some (.ref 82)]) zd_93_1 rfl]
  rw [zp_getI (n := 119) (K := zx_pk (zK L) 119) (σ := σ) (c := 12) (k := 7) (q := 82) (v := (σ 82 7)) zd_93_2 rfl rfl rfl (by decide) rfl]
  rw [zs_iconst (z := 1) zd_93_5 (by decide)]
  by_cases c1 : ¬ (σ 82 7) = 1
  · rw [if_pos c1] at H
    rw [zp_icmp_ne_t (x := (σ 82 7)) (y := 1) (t := 13) zd_93_6 rfl c1]
    rw [zs_iconst (z := 2) zd_93_13 (by decide)]
    exact zt_M_cannot_14  H
  · rw [if_neg c1] at H
    rw [zp_icmp_ne_f (x := (σ 82 7)) (y := 1) (t := 13) zd_93_6 rfl c1]
    rw [zs_iconst (z := 1) zd_93_9 (by decide)]
    rw [zs_goto (t := 14) zd_93_10 rfl]
    exact zt_M_cannot_14  H
set_option maxRecDepth 20000 in
theorem zt_M_isWord {a b L : Nat} {σ : zS} {τ : zT} {x1 : Int32} {r : Int32} (H : zf_M_isWord σ x1 = some r) : zx_go 0 91 0 [some (.ref 82), some (.int x1)] [] ((119, a, b), zx_pk (zK L) 119, σ, τ, zR) = some (some (.int r), ((119, a, b), zx_pk (zK L) 119, σ, τ, zR)) := by
  unfold zf_M_isWord at H
  rw [zs_aload_n (ls := [some (.ref 82), some (.int x1)]) zd_91_0 rfl]
  rw [zp_getI (n := 119) (K := zx_pk (zK L) 119) (σ := σ) (c := 12) (k := 7) (q := 82) (v := (σ 82 7)) zd_91_1 rfl rfl rfl (by decide) rfl]
  rw [zs_iconst (z := 5) zd_91_4 (by decide)]
  by_cases c1 : ¬ (σ 82 7) = 5
  · rw [if_pos c1] at H
    rw [zp_icmp_ne_t (x := (σ 82 7)) (y := 5) (t := 20) zd_91_5 rfl c1]
    rw [zs_iconst (z := 0) zd_91_20 (by decide)]
    have H := Option.some.inj H
    subst H
    exact zs_ireturn zd_91_21 (by decide +kernel)
  · rw [if_neg c1] at H
    rw [zp_icmp_ne_f (x := (σ 82 7)) (y := 5) (t := 20) zd_91_5 rfl c1]
    rw [zs_aload_n (ls := [some (.ref 82), some (.int x1)]) zd_91_8 rfl]
    rw [zp_getI (n := 119) (K := zx_pk (zK L) 119) (σ := σ) (c := 12) (k := 8) (q := 82) (v := (σ 82 8)) zd_91_9 rfl rfl rfl (by decide) rfl]
    rw [zs_iload_n (ls := [some (.ref 82), some (.int x1)]) zd_91_12 rfl]
    by_cases c2 : ¬ (σ 82 8) = x1
    · rw [if_pos c2] at H
      rw [zp_icmp_ne_t (x := (σ 82 8)) (y := x1) (t := 20) zd_91_13 rfl c2]
      rw [zs_iconst (z := 0) zd_91_20 (by decide)]
      have H := Option.some.inj H
      subst H
      exact zs_ireturn zd_91_21 (by decide +kernel)
    · rw [if_neg c2] at H
      rw [zp_icmp_ne_f (x := (σ 82 8)) (y := x1) (t := 20) zd_91_13 rfl c2]
      rw [zs_iconst (z := 1) zd_91_16 (by decide)]
      rw [zs_goto (t := 21) zd_91_17 rfl]
      have H := Option.some.inj H
      subst H
      exact zs_ireturn zd_91_21 (by decide +kernel)
set_option maxRecDepth 20000 in
theorem zt_M_find_88 {a b L N : Nat} {k2 : zS → Int32 → Int32 → Int32 → Option (Int32)} (hk2 : ∀ {σ : zS} {τ : zT} {v1 : Int32} {v2 : Int32} {v3 : Int32} {o4 : Option Value} {o5 : Option Value} {r : Int32}, k2 σ v1 v2 v3 = some r → zx_go 0 97 2 [some (.ref 82), some (.int v1), some (.int v2), some (.int v3), o4, o5] [] ((119, a, b), zx_pk (zK L) 119, σ, τ, zR) = some (some (.int r), ((119, a, b), zx_pk (zK L) 119, σ, τ, zR))) {σ : zS} {τ : zT} {v1 : Int32} {v2 : Int32} {v3 : Int32} {v4 : Int32} {o5 : Option Value} {r : Int32} (H : zb_M_find_88 k2 N σ v1 v2 v3 v4 = some r) : zx_go 0 97 88 [some (.ref 82), some (.int v1), some (.int v2), some (.int v3), some (.int v4), o5] [] ((119, a, b), zx_pk (zK L) 119, σ, τ, zR) = some (some (.int r), ((119, a, b), zx_pk (zK L) 119, σ, τ, zR)) := by
  unfold zb_M_find_88 at H
  rw [zs_iload (ls := [some (.ref 82), some (.int v1), some (.int v2), some (.int v3), some (.int v4), o5]) zd_97_88 rfl]
  by_cases c5 : v4 = 0
  · rw [if_pos c5] at H
    rw [zp_if_eq_t (x := v4) (t := 95) zd_97_90 rfl c5]
    rw [zs_iinc (ls := [some (.ref 82), some (.int v1), some (.int v2), some (.int v3), some (.int v4), o5]) (x := v3) (z := (v3 + 1)) (ls' := [some (.ref 82), some (.int v1), some (.int v2), some (.int (v3 + 1)), some (.int v4), o5]) zd_97_95 rfl rfl rfl]
    rw [zs_goto (t := 2) zd_97_98 rfl]
    exact hk2 H
  · rw [if_neg c5] at H
    rw [zp_if_eq_f (x := v4) (t := 95) zd_97_90 rfl c5]
    rw [zs_iload_n (ls := [some (.ref 82), some (.int v1), some (.int v2), some (.int v3), some (.int v4), o5]) zd_97_93 rfl]
    have H := Option.some.inj H
    subst H
    exact zs_ireturn zd_97_94 rfl
set_option maxRecDepth 20000 in
theorem zt_M_find_80 {a b L N : Nat} {k32 : zS → Int32 → Int32 → Int32 → Int32 → Int32 → Option (Int32)} (hk32 : ∀ {σ : zS} {τ : zT} {v1 : Int32} {v2 : Int32} {v3 : Int32} {v4 : Int32} {v5 : Int32} {r : Int32}, k32 σ v1 v2 v3 v4 v5 = some r → zx_go 0 97 32 [some (.ref 82), some (.int v1), some (.int v2), some (.int v3), some (.int v4), some (.int v5)] [] ((119, a, b), zx_pk (zK L) 119, σ, τ, zR) = some (some (.int r), ((119, a, b), zx_pk (zK L) 119, σ, τ, zR))) {σ : zS} {τ : zT} {v1 : Int32} {v2 : Int32} {v3 : Int32} {v5 : Int32} {s0 : Int32} {o4 : Option Value} {r : Int32} (H : zb_M_find_80 k32 N σ v1 v2 v3 v5 s0 = some r) : zx_go 0 97 80 [some (.ref 82), some (.int v1), some (.int v2), some (.int v3), o4, some (.int v5)] [.int s0] ((119, a, b), zx_pk (zK L) 119, σ, τ, zR) = some (some (.int r), ((119, a, b), zx_pk (zK L) 119, σ, τ, zR)) := by
  unfold zb_M_find_80 at H
  rw [zs_istore (x := s0) (ls' := [some (.ref 82), some (.int v1), some (.int v2), some (.int v3), some (.int s0), some (.int v5)]) zd_97_80 (Nat.le_of_ble_eq_true rfl) rfl]
  rw [zs_iinc (ls := [some (.ref 82), some (.int v1), some (.int v2), some (.int v3), some (.int s0), some (.int v5)]) (x := v5) (z := (v5 + 1)) (ls' := [some (.ref 82), some (.int v1), some (.int v2), some (.int v3), some (.int s0), some (.int (v5 + 1))]) zd_97_82 rfl rfl rfl]
  rw [zs_goto (t := 32) zd_97_85 rfl]
  exact hk32 H
set_option maxRecDepth 20000 in
theorem zt_M_find_32 {a b L N : Nat} {k2 : zS → Int32 → Int32 → Int32 → Option (Int32)} (hk2 : ∀ {σ : zS} {τ : zT} {v1 : Int32} {v2 : Int32} {v3 : Int32} {o4 : Option Value} {o5 : Option Value} {r : Int32}, k2 σ v1 v2 v3 = some r → zx_go 0 97 2 [some (.ref 82), some (.int v1), some (.int v2), some (.int v3), o4, o5] [] ((119, a, b), zx_pk (zK L) 119, σ, τ, zR) = some (some (.int r), ((119, a, b), zx_pk (zK L) 119, σ, τ, zR))) : ∀ {n : Nat} {σ : zS} {τ : zT} {v1 : Int32} {v2 : Int32} {v3 : Int32} {v4 : Int32} {v5 : Int32} {r : Int32}, zb_M_find_32 k2 N n σ v1 v2 v3 v4 v5 = some r → zx_go 0 97 32 [some (.ref 82), some (.int v1), some (.int v2), some (.int v3), some (.int v4), some (.int v5)] [] ((119, a, b), zx_pk (zK L) 119, σ, τ, zR) = some (some (.int r), ((119, a, b), zx_pk (zK L) 119, σ, τ, zR)) := by
  intro n
  induction n with
  | zero =>
    intro _ _ _ _ _ _ _ _ H
    cases H
  | succ n ih =>
    intro σ τ v1 v2 v3 v4 v5 r H
    rw [zb_M_find_32] at H
    rw [zs_iload (ls := [some (.ref 82), some (.int v1), some (.int v2), some (.int v3), some (.int v4), some (.int v5)]) zd_97_32 rfl]
    rw [zs_aload_n (ls := [some (.ref 82), some (.int v1), some (.int v2), some (.int v3), some (.int v4), some (.int v5)]) zd_97_34 rfl]
    rw [zp_getI (n := 119) (K := zx_pk (zK L) 119) (σ := σ) (c := 12) (k := 6) (q := 82) (v := (σ 82 6)) zd_97_35 rfl rfl rfl (by decide) rfl]
    by_cases c4 : (σ 82 6) ≤ v5
    · rw [if_pos c4] at H
      rw [zp_icmp_ge_t (x := v5) (y := (σ 82 6)) (t := 88) zd_97_38 rfl c4]
      exact zt_M_find_88 (hk2 := hk2) H
    · rw [if_neg c4] at H
      rw [zp_icmp_ge_f (x := v5) (y := (σ 82 6)) (t := 88) zd_97_38 rfl c4]
      rw [zs_iload (ls := [some (.ref 82), some (.int v1), some (.int v2), some (.int v3), some (.int v4), some (.int v5)]) zd_97_41 rfl]
      by_cases c6 : v4 = 0
      · rw [if_pos c6] at H
        rw [zp_if_eq_t (x := v4) (t := 88) zd_97_43 rfl c6]
        exact zt_M_find_88 (hk2 := hk2) H
      · rw [if_neg c6] at H
        rw [zp_if_eq_f (x := v4) (t := 88) zd_97_43 rfl c6]
        rw [zs_aload_n (ls := [some (.ref 82), some (.int v1), some (.int v2), some (.int v3), some (.int v4), some (.int v5)]) zd_97_46 rfl]
        rw [zs_getR (n := 119) (K := zx_pk (zK L) 119) (ρ := zR) (c := 12) (k := 13) (q := 82) (p := 85) zd_97_47 rfl rfl rfl (by decide) rfl]
        rw [zs_bipush (z := 6) zd_97_50 (by decide)]
        rw [zs_iload_n (ls := [some (.ref 82), some (.int v1), some (.int v2), some (.int v3), some (.int v4), some (.int v5)]) zd_97_52 rfl]
        rw [zs_iload_n (ls := [some (.ref 82), some (.int v1), some (.int v2), some (.int v3), some (.int v4), some (.int v5)]) zd_97_53 rfl]
        rw [zp_iadd (x := v1) (y := v3) (z := (v1 + v3)) zd_97_54 rfl]
        rw [zp_imul (x := 6) (y := (v1 + v3)) (z := (6 * (v1 + v3))) zd_97_55 rfl]
        rw [zs_iload (ls := [some (.ref 82), some (.int v1), some (.int v2), some (.int v3), some (.int v4), some (.int v5)]) zd_97_56 rfl]
        rw [zp_iadd (x := (6 * (v1 + v3))) (y := v5) (z := ((6 * (v1 + v3)) + v5)) zd_97_58 rfl]
        by_cases c7 : 0 ≤ ((6 * (v1 + v3)) + v5) ∧ ((6 * (v1 + v3)) + v5) < 1200
        · rw [if_pos c7] at H
          rw [zp_baload (n := 119) (K := zx_pk (zK L) 119) (σ := σ) (q := 85) (m := 1200) (i := ((6 * (v1 + v3)) + v5)) (k := ((6 * (v1 + v3)) + v5).toNatClampNeg) (v := (σ 85 ((6 * (v1 + v3)) + v5).toNatClampNeg)) zd_97_59 rfl (by decide) (zJ_in c7 rfl) rfl rfl]
          rw [zs_aload_n (ls := [some (.ref 82), some (.int v1), some (.int v2), some (.int v3), some (.int v4), some (.int v5)]) zd_97_60 rfl]
          rw [zs_getR (n := 119) (K := zx_pk (zK L) 119) (ρ := zR) (c := 12) (k := 3) (q := 82) (p := 84) zd_97_61 rfl rfl rfl (by decide) rfl]
          rw [zs_aload_n (ls := [some (.ref 82), some (.int v1), some (.int v2), some (.int v3), some (.int v4), some (.int v5)]) zd_97_64 rfl]
          rw [zp_getI (n := 119) (K := zx_pk (zK L) 119) (σ := σ) (c := 12) (k := 5) (q := 82) (v := (σ 82 5)) zd_97_65 rfl rfl rfl (by decide) rfl]
          rw [zs_iload (ls := [some (.ref 82), some (.int v1), some (.int v2), some (.int v3), some (.int v4), some (.int v5)]) zd_97_68 rfl]
          rw [zp_iadd (x := (σ 82 5)) (y := v5) (z := ((σ 82 5) + v5)) zd_97_70 rfl]
          by_cases c8 : 0 ≤ ((σ 82 5) + v5) ∧ ((σ 82 5) + v5) < 1500
          · rw [if_pos c8] at H
            rw [zp_baload (n := 119) (K := zx_pk (zK L) 119) (σ := σ) (q := 84) (m := 1500) (i := ((σ 82 5) + v5)) (k := ((σ 82 5) + v5).toNatClampNeg) (v := (σ 84 ((σ 82 5) + v5).toNatClampNeg)) zd_97_71 rfl (by decide) (zJ_in c8 rfl) rfl rfl]
            by_cases c9 : ¬ (σ 85 ((6 * (v1 + v3)) + v5).toNatClampNeg) = (σ 84 ((σ 82 5) + v5).toNatClampNeg)
            · rw [if_pos c9] at H
              rw [zp_icmp_ne_t (x := (σ 85 ((6 * (v1 + v3)) + v5).toNatClampNeg)) (y := (σ 84 ((σ 82 5) + v5).toNatClampNeg)) (t := 79) zd_97_72 rfl c9]
              rw [zs_iconst (z := 0) zd_97_79 (by decide)]
              exact zt_M_find_80 (hk32 := ih) H
            · rw [if_neg c9] at H
              rw [zp_icmp_ne_f (x := (σ 85 ((6 * (v1 + v3)) + v5).toNatClampNeg)) (y := (σ 84 ((σ 82 5) + v5).toNatClampNeg)) (t := 79) zd_97_72 rfl c9]
              rw [zs_iconst (z := 1) zd_97_75 (by decide)]
              rw [zs_goto (t := 80) zd_97_76 rfl]
              exact zt_M_find_80 (hk32 := ih) H
          · rw [if_neg c8] at H
            cases H
        · rw [if_neg c7] at H
          cases H
set_option maxRecDepth 20000 in
theorem zt_M_find_27 {a b L N : Nat} {k2 : zS → Int32 → Int32 → Int32 → Option (Int32)} (hk2 : ∀ {σ : zS} {τ : zT} {v1 : Int32} {v2 : Int32} {v3 : Int32} {o4 : Option Value} {o5 : Option Value} {r : Int32}, k2 σ v1 v2 v3 = some r → zx_go 0 97 2 [some (.ref 82), some (.int v1), some (.int v2), some (.int v3), o4, o5] [] ((119, a, b), zx_pk (zK L) 119, σ, τ, zR) = some (some (.int r), ((119, a, b), zx_pk (zK L) 119, σ, τ, zR))) {σ : zS} {τ : zT} {v1 : Int32} {v2 : Int32} {v3 : Int32} {s0 : Int32} {o4 : Option Value} {o5 : Option Value} {r : Int32} (H : zb_M_find_27 k2 N σ v1 v2 v3 s0 = some r) : zx_go 0 97 27 [some (.ref 82), some (.int v1), some (.int v2), some (.int v3), o4, o5] [.int s0] ((119, a, b), zx_pk (zK L) 119, σ, τ, zR) = some (some (.int r), ((119, a, b), zx_pk (zK L) 119, σ, τ, zR)) := by
  unfold zb_M_find_27 at H
  rw [zs_istore (x := s0) (ls' := [some (.ref 82), some (.int v1), some (.int v2), some (.int v3), some (.int s0), o5]) zd_97_27 (Nat.le_of_ble_eq_true rfl) rfl]
  rw [zs_iconst (z := 0) zd_97_29 (by decide)]
  rw [zs_istore (x := 0) (ls' := [some (.ref 82), some (.int v1), some (.int v2), some (.int v3), some (.int s0), some (.int 0)]) zd_97_30 (Nat.le_of_ble_eq_true rfl) rfl]
  exact zt_M_find_32 (hk2 := hk2) H
set_option maxRecDepth 20000 in
theorem zt_M_find_2 {a b L N : Nat} : ∀ {n : Nat} {σ : zS} {τ : zT} {v1 : Int32} {v2 : Int32} {v3 : Int32} {o4 : Option Value} {o5 : Option Value} {r : Int32}, zb_M_find_2 N n σ v1 v2 v3 = some r → zx_go 0 97 2 [some (.ref 82), some (.int v1), some (.int v2), some (.int v3), o4, o5] [] ((119, a, b), zx_pk (zK L) 119, σ, τ, zR) = some (some (.int r), ((119, a, b), zx_pk (zK L) 119, σ, τ, zR)) := by
  intro n
  induction n with
  | zero =>
    intro _ _ _ _ _ _ _ _ H
    cases H
  | succ n ih =>
    intro σ τ v1 v2 v3 o4 o5 r H
    rw [zb_M_find_2] at H
    rw [zs_iload_n (ls := [some (.ref 82), some (.int v1), some (.int v2), some (.int v3), o4, o5]) zd_97_2 rfl]
    rw [zs_iload_n (ls := [some (.ref 82), some (.int v1), some (.int v2), some (.int v3), o4, o5]) zd_97_3 rfl]
    by_cases c1 : v2 ≤ v3
    · rw [if_pos c1] at H
      rw [zp_icmp_ge_t (x := v3) (y := v2) (t := 101) zd_97_4 rfl c1]
      rw [zs_iconst (z := (-1)) zd_97_101 (by decide)]
      have H := Option.some.inj H
      subst H
      exact zs_ireturn zd_97_102 (by decide +kernel)
    · rw [if_neg c1] at H
      rw [zp_icmp_ge_f (x := v3) (y := v2) (t := 101) zd_97_4 rfl c1]
      rw [zs_aload_n (ls := [some (.ref 82), some (.int v1), some (.int v2), some (.int v3), o4, o5]) zd_97_7 rfl]
      rw [zs_getR (n := 119) (K := zx_pk (zK L) 119) (ρ := zR) (c := 12) (k := 14) (q := 82) (p := 86) zd_97_8 rfl rfl rfl (by decide) rfl]
      rw [zs_iload_n (ls := [some (.ref 82), some (.int v1), some (.int v2), some (.int v3), o4, o5]) zd_97_11 rfl]
      rw [zs_iload_n (ls := [some (.ref 82), some (.int v1), some (.int v2), some (.int v3), o4, o5]) zd_97_12 rfl]
      rw [zp_iadd (x := v1) (y := v3) (z := (v1 + v3)) zd_97_13 rfl]
      by_cases c2 : 0 ≤ (v1 + v3) ∧ (v1 + v3) < 200
      · rw [if_pos c2] at H
        rw [zp_iaload (n := 119) (K := zx_pk (zK L) 119) (σ := σ) (q := 86) (m := 200) (i := (v1 + v3)) (k := (v1 + v3).toNatClampNeg) (v := (σ 86 (v1 + v3).toNatClampNeg)) zd_97_14 rfl (by decide) (zJ_in c2 rfl) rfl rfl]
        rw [zs_aload_n (ls := [some (.ref 82), some (.int v1), some (.int v2), some (.int v3), o4, o5]) zd_97_15 rfl]
        rw [zp_getI (n := 119) (K := zx_pk (zK L) 119) (σ := σ) (c := 12) (k := 6) (q := 82) (v := (σ 82 6)) zd_97_16 rfl rfl rfl (by decide) rfl]
        by_cases c3 : ¬ (σ 86 (v1 + v3).toNatClampNeg) = (σ 82 6)
        · rw [if_pos c3] at H
          rw [zp_icmp_ne_t (x := (σ 86 (v1 + v3).toNatClampNeg)) (y := (σ 82 6)) (t := 26) zd_97_19 rfl c3]
          rw [zs_iconst (z := 0) zd_97_26 (by decide)]
          exact zt_M_find_27 (hk2 := ih) H
        · rw [if_neg c3] at H
          rw [zp_icmp_ne_f (x := (σ 86 (v1 + v3).toNatClampNeg)) (y := (σ 82 6)) (t := 26) zd_97_19 rfl c3]
          rw [zs_iconst (z := 1) zd_97_22 (by decide)]
          rw [zs_goto (t := 27) zd_97_23 rfl]
          exact zt_M_find_27 (hk2 := ih) H
      · rw [if_neg c2] at H
        cases H
set_option maxRecDepth 20000 in
theorem zt_M_find {a b L N : Nat} {σ : zS} {τ : zT} {x1 : Int32} {x2 : Int32} {r : Int32} (H : zf_M_find N σ x1 x2 = some r) : zx_go 0 97 0 [some (.ref 82), some (.int x1), some (.int x2), none, none, none] [] ((119, a, b), zx_pk (zK L) 119, σ, τ, zR) = some (some (.int r), ((119, a, b), zx_pk (zK L) 119, σ, τ, zR)) := by
  unfold zf_M_find at H
  rw [zs_iconst (z := 0) zd_97_0 (by decide)]
  rw [zs_istore_n (x := 0) (ls' := [some (.ref 82), some (.int x1), some (.int x2), some (.int 0), none, none]) zd_97_1 (Nat.le_of_ble_eq_true rfl) rfl]
  exact zt_M_find_2  H
set_option maxRecDepth 20000 in
theorem zt_M_fieldHere {a b L N : Nat} {σ : zS} {τ : zT} {r : Int32} (H : zf_M_fieldHere N σ = some r) : zx_go 1 96 0 [some (.ref 82)] [] ((119, a, b), zx_pk (zK L) 119, σ, τ, zR) = some (some (.int r), ((119, a, b), zx_pk (zK L) 119, σ, τ, zR)) := by
  unfold zf_M_fieldHere at H
  rw [zs_aload_n (ls := [some (.ref 82)]) zd_96_0 rfl]
  rw [zs_iconst (z := 0) zd_96_1 (by decide)]
  rw [zs_aload_n (ls := [some (.ref 82)]) zd_96_2 rfl]
  rw [zp_getI (n := 119) (K := zx_pk (zK L) 119) (σ := σ) (c := 12) (k := 15) (q := 82) (v := (σ 82 15)) zd_96_3 rfl rfl rfl (by decide) rfl]
  obtain ⟨r1, hr1, H⟩ := Option.bind_eq_some_iff.mp H
  rw [zp_callVi (x := r1) (st := [.int (σ 82 15), .int 0, .ref 82]) (as := [.ref 82, .int 0, .int (σ 82 15)]) (rest := []) (e := 0) zd_96_6 rfl (by decide +kernel) (by decide) rfl rfl (Nat.le_of_ble_eq_true rfl) (zx_rcb_ok rfl (show 82 < 119 by decide)) (Nat.le_of_ble_eq_true rfl) rfl (by decide) (zt_M_find hr1)]
  have H := Option.some.inj H
  subst H
  exact zs_ireturn zd_96_9 rfl
set_option maxRecDepth 20000 in
theorem zt_M_lockHere {a b L N : Nat} {σ : zS} {τ : zT} {r : Int32} (H : zf_M_lockHere N σ = some r) : zx_go 1 98 0 [some (.ref 82)] [] ((119, a, b), zx_pk (zK L) 119, σ, τ, zR) = some (some (.int r), ((119, a, b), zx_pk (zK L) 119, σ, τ, zR)) := by
  unfold zf_M_lockHere at H
  rw [zs_aload_n (ls := [some (.ref 82)]) zd_98_0 rfl]
  rw [zs_bipush (z := 6) zd_98_1 (by decide)]
  rw [zs_aload_n (ls := [some (.ref 82)]) zd_98_3 rfl]
  rw [zp_getI (n := 119) (K := zx_pk (zK L) 119) (σ := σ) (c := 12) (k := 16) (q := 82) (v := (σ 82 16)) zd_98_4 rfl rfl rfl (by decide) rfl]
  obtain ⟨r1, hr1, H⟩ := Option.bind_eq_some_iff.mp H
  rw [zp_callVi (x := r1) (st := [.int (σ 82 16), .int 6, .ref 82]) (as := [.ref 82, .int 6, .int (σ 82 16)]) (rest := []) (e := 0) zd_98_7 rfl (by decide +kernel) (by decide) rfl rfl (Nat.le_of_ble_eq_true rfl) (zx_rcb_ok rfl (show 82 < 119 by decide)) (Nat.le_of_ble_eq_true rfl) rfl (by decide) (zt_M_find hr1)]
  have H := Option.some.inj H
  subst H
  exact zs_ireturn zd_98_10 rfl
set_option maxRecDepth 20000 in
theorem zt_M_threadHere {a b L N : Nat} {σ : zS} {τ : zT} {r : Int32} (H : zf_M_threadHere N σ = some r) : zx_go 1 99 0 [some (.ref 82)] [] ((119, a, b), zx_pk (zK L) 119, σ, τ, zR) = some (some (.int r), ((119, a, b), zx_pk (zK L) 119, σ, τ, zR)) := by
  unfold zf_M_threadHere at H
  rw [zs_aload_n (ls := [some (.ref 82)]) zd_99_0 rfl]
  rw [zs_bipush (z := 10) zd_99_1 (by decide)]
  rw [zs_aload_n (ls := [some (.ref 82)]) zd_99_3 rfl]
  rw [zp_getI (n := 119) (K := zx_pk (zK L) 119) (σ := σ) (c := 12) (k := 17) (q := 82) (v := (σ 82 17)) zd_99_4 rfl rfl rfl (by decide) rfl]
  obtain ⟨r1, hr1, H⟩ := Option.bind_eq_some_iff.mp H
  rw [zp_callVi (x := r1) (st := [.int (σ 82 17), .int 10, .ref 82]) (as := [.ref 82, .int 10, .int (σ 82 17)]) (rest := []) (e := 0) zd_99_7 rfl (by decide +kernel) (by decide) rfl rfl (Nat.le_of_ble_eq_true rfl) (zx_rcb_ok rfl (show 82 < 119 by decide)) (Nat.le_of_ble_eq_true rfl) rfl (by decide) (zt_M_find hr1)]
  have H := Option.some.inj H
  subst H
  exact zs_ireturn zd_99_10 rfl
set_option maxRecDepth 20000 in
theorem zt_M_isTold_24 {a b L N : Nat} {σ : zS} {τ : zT} {o0 : Option Value} {r : Int32} (H : zb_M_isTold_24 N σ = some r) : zx_go 2 95 24 [o0] [] ((119, a, b), zx_pk (zK L) 119, σ, τ, zR) = some (some (.int r), ((119, a, b), zx_pk (zK L) 119, σ, τ, zR)) := by
  unfold zb_M_isTold_24 at H
  rw [zs_iconst (z := 1) zd_95_24 (by decide)]
  rw [zs_goto (t := 29) zd_95_25 rfl]
  have H := Option.some.inj H
  subst H
  exact zs_ireturn zd_95_29 (by decide +kernel)
set_option maxRecDepth 20000 in
theorem zt_M_isTold {a b L N : Nat} {σ : zS} {τ : zT} {r : Int32} (H : zf_M_isTold N σ = some r) : zx_go 2 95 0 [some (.ref 82)] [] ((119, a, b), zx_pk (zK L) 119, σ, τ, zR) = some (some (.int r), ((119, a, b), zx_pk (zK L) 119, σ, τ, zR)) := by
  unfold zf_M_isTold at H
  rw [zs_aload_n (ls := [some (.ref 82)]) zd_95_0 rfl]
  obtain ⟨r1, hr1, H⟩ := Option.bind_eq_some_iff.mp H
  rw [zp_callVi (x := r1) (st := [.ref 82]) (as := [.ref 82]) (rest := []) (e := 1) zd_95_1 rfl (by decide +kernel) (by decide) rfl rfl (Nat.le_of_ble_eq_true rfl) (zx_rcb_ok rfl (show 82 < 119 by decide)) (Nat.le_of_ble_eq_true rfl) rfl (by decide) (zt_M_fieldHere hr1)]
  rw [zs_iconst (z := (-1)) zd_95_4 (by decide)]
  by_cases c2 : ¬ r1 = (-1)
  · rw [if_pos c2] at H
    rw [zp_icmp_ne_t (x := r1) (y := (-1)) (t := 24) zd_95_5 rfl c2]
    exact zt_M_isTold_24  H
  · rw [if_neg c2] at H
    rw [zp_icmp_ne_f (x := r1) (y := (-1)) (t := 24) zd_95_5 rfl c2]
    rw [zs_aload_n (ls := [some (.ref 82)]) zd_95_8 rfl]
    obtain ⟨r3, hr3, H⟩ := Option.bind_eq_some_iff.mp H
    rw [zp_callVi (x := r3) (st := [.ref 82]) (as := [.ref 82]) (rest := []) (e := 1) zd_95_9 rfl (by decide +kernel) (by decide) rfl rfl (Nat.le_of_ble_eq_true rfl) (zx_rcb_ok rfl (show 82 < 119 by decide)) (Nat.le_of_ble_eq_true rfl) rfl (by decide) (zt_M_lockHere hr3)]
    rw [zs_iconst (z := (-1)) zd_95_12 (by decide)]
    by_cases c4 : ¬ r3 = (-1)
    · rw [if_pos c4] at H
      rw [zp_icmp_ne_t (x := r3) (y := (-1)) (t := 24) zd_95_13 rfl c4]
      exact zt_M_isTold_24  H
    · rw [if_neg c4] at H
      rw [zp_icmp_ne_f (x := r3) (y := (-1)) (t := 24) zd_95_13 rfl c4]
      rw [zs_aload_n (ls := [some (.ref 82)]) zd_95_16 rfl]
      obtain ⟨r5, hr5, H⟩ := Option.bind_eq_some_iff.mp H
      rw [zp_callVi (x := r5) (st := [.ref 82]) (as := [.ref 82]) (rest := []) (e := 1) zd_95_17 rfl (by decide +kernel) (by decide) rfl rfl (Nat.le_of_ble_eq_true rfl) (zx_rcb_ok rfl (show 82 < 119 by decide)) (Nat.le_of_ble_eq_true rfl) rfl (by decide) (zt_M_threadHere hr5)]
      rw [zs_iconst (z := (-1)) zd_95_20 (by decide)]
      by_cases c6 : r5 = (-1)
      · rw [if_pos c6] at H
        rw [zp_icmp_eq_t (x := r5) (y := (-1)) (t := 28) zd_95_21 rfl c6]
        rw [zs_iconst (z := 0) zd_95_28 (by decide)]
        have H := Option.some.inj H
        subst H
        exact zs_ireturn zd_95_29 (by decide +kernel)
      · rw [if_neg c6] at H
        rw [zp_icmp_eq_f (x := r5) (y := (-1)) (t := 28) zd_95_21 rfl c6]
        exact zt_M_isTold_24  H
set_option maxRecDepth 20000 in
theorem zt_M_call_12 {a b L N : Nat} : ∀ {n : Nat} {σ : zS} {τ : zT} {v1 : Int32} {v2 : Int32} {r : zS}, zb_M_call_12 N n σ v1 v2 = some r → zx_go 0 100 12 [some (.ref 82), some (.int v1), some (.int v2)] [] ((119, a, b), zx_pk (zK L) 119, σ, τ, zR) = some (none, ((119, a, b), zx_pk (zK L) 119, r, τ, zR)) := by
  intro n
  induction n with
  | zero =>
    intro _ _ _ _ _ H
    cases H
  | succ n ih =>
    intro σ τ v1 v2 r H
    rw [zb_M_call_12] at H
    rw [zs_iload_n (ls := [some (.ref 82), some (.int v1), some (.int v2)]) zd_100_12 rfl]
    rw [zs_aload_n (ls := [some (.ref 82), some (.int v1), some (.int v2)]) zd_100_13 rfl]
    rw [zp_getI (n := 119) (K := zx_pk (zK L) 119) (σ := σ) (c := 12) (k := 6) (q := 82) (v := (σ 82 6)) zd_100_14 rfl rfl rfl (by decide) rfl]
    by_cases c2 : (σ 82 6) ≤ v2
    · rw [if_pos c2] at H
      rw [zp_icmp_ge_t (x := v2) (y := (σ 82 6)) (t := 48) zd_100_17 rfl c2]
      have H := Option.some.inj H
      subst H
      exact zs_return zd_100_48 (by decide +kernel)
    · rw [if_neg c2] at H
      rw [zp_icmp_ge_f (x := v2) (y := (σ 82 6)) (t := 48) zd_100_17 rfl c2]
      rw [zs_aload_n (ls := [some (.ref 82), some (.int v1), some (.int v2)]) zd_100_20 rfl]
      rw [zs_getR (n := 119) (K := zx_pk (zK L) 119) (ρ := zR) (c := 12) (k := 13) (q := 82) (p := 85) zd_100_21 rfl rfl rfl (by decide) rfl]
      rw [zs_bipush (z := 6) zd_100_24 (by decide)]
      rw [zs_iload_n (ls := [some (.ref 82), some (.int v1), some (.int v2)]) zd_100_26 rfl]
      rw [zp_imul (x := 6) (y := v1) (z := (6 * v1)) zd_100_27 rfl]
      rw [zs_iload_n (ls := [some (.ref 82), some (.int v1), some (.int v2)]) zd_100_28 rfl]
      rw [zp_iadd (x := (6 * v1)) (y := v2) (z := ((6 * v1) + v2)) zd_100_29 rfl]
      rw [zs_aload_n (ls := [some (.ref 82), some (.int v1), some (.int v2)]) zd_100_30 rfl]
      rw [zs_getR (n := 119) (K := zx_pk (zK L) 119) (ρ := zR) (c := 12) (k := 3) (q := 82) (p := 84) zd_100_31 rfl rfl rfl (by decide) rfl]
      rw [zs_aload_n (ls := [some (.ref 82), some (.int v1), some (.int v2)]) zd_100_34 rfl]
      rw [zp_getI (n := 119) (K := zx_pk (zK L) 119) (σ := σ) (c := 12) (k := 5) (q := 82) (v := (σ 82 5)) zd_100_35 rfl rfl rfl (by decide) rfl]
      rw [zs_iload_n (ls := [some (.ref 82), some (.int v1), some (.int v2)]) zd_100_38 rfl]
      rw [zp_iadd (x := (σ 82 5)) (y := v2) (z := ((σ 82 5) + v2)) zd_100_39 rfl]
      by_cases c3 : 0 ≤ ((σ 82 5) + v2) ∧ ((σ 82 5) + v2) < 1500
      · rw [if_pos c3] at H
        rw [zp_baload (n := 119) (K := zx_pk (zK L) 119) (σ := σ) (q := 84) (m := 1500) (i := ((σ 82 5) + v2)) (k := ((σ 82 5) + v2).toNatClampNeg) (v := (σ 84 ((σ 82 5) + v2).toNatClampNeg)) zd_100_40 rfl (by decide) (zJ_in c3 rfl) rfl rfl]
        by_cases c4 : 0 ≤ ((6 * v1) + v2) ∧ ((6 * v1) + v2) < 1200
        · rw [if_pos c4] at H
          rw [zp_bastore (n := 119) (K := zx_pk (zK L) 119) (q := 85) (m := 1200) (i := ((6 * v1) + v2)) (k := ((6 * v1) + v2).toNatClampNeg) (x := (σ 84 ((σ 82 5) + v2).toNatClampNeg)) (z := (zJ_byte (σ 84 ((σ 82 5) + v2).toNatClampNeg))) zd_100_41 rfl ⟨by decide, by decide⟩ (zJ_in c4 rfl) rfl rfl]
          rw [zs_iinc (ls := [some (.ref 82), some (.int v1), some (.int v2)]) (x := v2) (z := (v2 + 1)) (ls' := [some (.ref 82), some (.int v1), some (.int (v2 + 1))]) zd_100_42 rfl rfl rfl]
          rw [zs_goto (t := 12) zd_100_45 rfl]
          exact ih H
        · rw [if_neg c4] at H
          cases H
      · rw [if_neg c3] at H
        cases H
set_option maxRecDepth 20000 in
theorem zt_M_call {a b L N : Nat} {σ : zS} {τ : zT} {x1 : Int32} {r : zS} (H : zf_M_call N σ x1 = some r) : zx_go 0 100 0 [some (.ref 82), some (.int x1), none] [] ((119, a, b), zx_pk (zK L) 119, σ, τ, zR) = some (none, ((119, a, b), zx_pk (zK L) 119, r, τ, zR)) := by
  unfold zf_M_call at H
  rw [zs_aload_n (ls := [some (.ref 82), some (.int x1), none]) zd_100_0 rfl]
  rw [zs_getR (n := 119) (K := zx_pk (zK L) 119) (ρ := zR) (c := 12) (k := 14) (q := 82) (p := 86) zd_100_1 rfl rfl rfl (by decide) rfl]
  rw [zs_iload_n (ls := [some (.ref 82), some (.int x1), none]) zd_100_4 rfl]
  rw [zs_aload_n (ls := [some (.ref 82), some (.int x1), none]) zd_100_5 rfl]
  rw [zp_getI (n := 119) (K := zx_pk (zK L) 119) (σ := σ) (c := 12) (k := 6) (q := 82) (v := (σ 82 6)) zd_100_6 rfl rfl rfl (by decide) rfl]
  by_cases c1 : 0 ≤ x1 ∧ x1 < 200
  · rw [if_pos c1] at H
    rw [zp_iastore (n := 119) (K := zx_pk (zK L) 119) (q := 86) (m := 200) (i := x1) (k := x1.toNatClampNeg) (x := (σ 82 6)) (z := (σ 82 6)) zd_100_9 rfl ⟨by decide, by decide⟩ (zJ_in c1 rfl) rfl rfl]
    rw [zs_iconst (z := 0) zd_100_10 (by decide)]
    rw [zs_istore_n (x := 0) (ls' := [some (.ref 82), some (.int x1), some (.int 0)]) zd_100_11 (Nat.le_of_ble_eq_true rfl) rfl]
    exact zt_M_call_12  H
  · rw [if_neg c1] at H
    cases H
set_option maxRecDepth 20000 in
theorem zt_M_isSign {a b L : Nat} {σ : zS} {τ : zT} {x1 : Int32} {r : Int32} (H : zf_M_isSign σ x1 = some r) : zx_go 0 102 0 [some (.ref 82), some (.int x1)] [] ((119, a, b), zx_pk (zK L) 119, σ, τ, zR) = some (some (.int r), ((119, a, b), zx_pk (zK L) 119, σ, τ, zR)) := by
  unfold zf_M_isSign at H
  rw [zs_aload_n (ls := [some (.ref 82), some (.int x1)]) zd_102_0 rfl]
  rw [zp_getI (n := 119) (K := zx_pk (zK L) 119) (σ := σ) (c := 12) (k := 7) (q := 82) (v := (σ 82 7)) zd_102_1 rfl rfl rfl (by decide) rfl]
  rw [zs_iconst (z := 4) zd_102_4 (by decide)]
  by_cases c1 : ¬ (σ 82 7) = 4
  · rw [if_pos c1] at H
    rw [zp_icmp_ne_t (x := (σ 82 7)) (y := 4) (t := 20) zd_102_5 rfl c1]
    rw [zs_iconst (z := 0) zd_102_20 (by decide)]
    have H := Option.some.inj H
    subst H
    exact zs_ireturn zd_102_21 (by decide +kernel)
  · rw [if_neg c1] at H
    rw [zp_icmp_ne_f (x := (σ 82 7)) (y := 4) (t := 20) zd_102_5 rfl c1]
    rw [zs_aload_n (ls := [some (.ref 82), some (.int x1)]) zd_102_8 rfl]
    rw [zp_getI (n := 119) (K := zx_pk (zK L) 119) (σ := σ) (c := 12) (k := 8) (q := 82) (v := (σ 82 8)) zd_102_9 rfl rfl rfl (by decide) rfl]
    rw [zs_iload_n (ls := [some (.ref 82), some (.int x1)]) zd_102_12 rfl]
    by_cases c2 : ¬ (σ 82 8) = x1
    · rw [if_pos c2] at H
      rw [zp_icmp_ne_t (x := (σ 82 8)) (y := x1) (t := 20) zd_102_13 rfl c2]
      rw [zs_iconst (z := 0) zd_102_20 (by decide)]
      have H := Option.some.inj H
      subst H
      exact zs_ireturn zd_102_21 (by decide +kernel)
    · rw [if_neg c2] at H
      rw [zp_icmp_ne_f (x := (σ 82 8)) (y := x1) (t := 20) zd_102_13 rfl c2]
      rw [zs_iconst (z := 1) zd_102_16 (by decide)]
      rw [zs_goto (t := 21) zd_102_17 rfl]
      have H := Option.some.inj H
      subst H
      exact zs_ireturn zd_102_21 (by decide +kernel)
set_option maxRecDepth 20000 in
theorem zt_M_openBlock {a b L N : Nat} {σ : zS} {τ : zT} {x1 : Int32} {x2 : Int32} {r : zS} (H : zf_M_openBlock N σ x1 x2 = some r) : zx_go 3 105 0 [some (.ref 82), some (.int x1), some (.int x2)] [] ((119, a, b), zx_pk (zK L) 119, σ, τ, zR) = some (none, ((119, a, b), zx_pk (zK L) 119, r, τ, zR)) := by
  unfold zf_M_openBlock at H
  rw [zs_aload_n (ls := [some (.ref 82), some (.int x1), some (.int x2)]) zd_105_0 rfl]
  rw [zp_getZ (n := 119) (K := zx_pk (zK L) 119) (σ := σ) (c := 12) (k := 9) (q := 82) (v := (σ 82 9)) zd_105_1 rfl rfl rfl (by decide) rfl]
  by_cases c1 : (σ 82 9) = 0
  · rw [if_pos c1] at H
    rw [zp_if_eq_t (x := (σ 82 9)) (t := 8) zd_105_4 rfl c1]
    rw [zs_aload_n (ls := [some (.ref 82), some (.int x1), some (.int x2)]) zd_105_8 rfl]
    rw [zs_bipush (z := 123) zd_105_9 (by decide)]
    obtain ⟨r2, hr2, H⟩ := Option.bind_eq_some_iff.mp H
    rw [zp_callVi (x := r2) (st := [.int 123, .ref 82]) (as := [.ref 82, .int 123]) (rest := []) (e := 0) zd_105_11 rfl (by decide +kernel) (by decide) rfl rfl (Nat.le_of_ble_eq_true rfl) (zx_rcb_ok rfl (show 82 < 119 by decide)) (Nat.le_of_ble_eq_true rfl) rfl (by decide) (zt_M_isSign hr2)]
    by_cases c3 : ¬ r2 = 0
    · rw [if_pos c3] at H
      rw [zp_if_ne_t (x := r2) (t := 22) zd_105_14 rfl c3]
      rw [zs_aload_n (ls := [some (.ref 82), some (.int x1), some (.int x2)]) zd_105_22 rfl]
      rw [zp_getI (n := 119) (K := zx_pk (zK L) 119) (σ := σ) (c := 12) (k := 46) (q := 82) (v := (σ 82 46)) zd_105_23 rfl rfl rfl (by decide) rfl]
      rw [zs_bipush (z := 8) zd_105_26 (by decide)]
      by_cases c4 : ¬ (σ 82 46) = 8
      · rw [if_pos c4] at H
        rw [zp_icmp_ne_t (x := (σ 82 46)) (y := 8) (t := 37) zd_105_28 rfl c4]
        rw [zs_aload_n (ls := [some (.ref 82), some (.int x1), some (.int x2)]) zd_105_37 rfl]
        obtain ⟨r5, hr5, H⟩ := Option.bind_eq_some_iff.mp H
        rw [zp_callVv (st := [.ref 82]) (as := [.ref 82]) (rest := []) (e := 2) zd_105_38 rfl (by decide +kernel) (by decide) rfl rfl (Nat.le_of_ble_eq_true rfl) (zx_rcb_ok rfl (show 82 < 119 by decide)) (Nat.le_of_ble_eq_true rfl) rfl (by decide) (zt_M_next hr5)]
        rw [zs_aload_n (ls := [some (.ref 82), some (.int x1), some (.int x2)]) zd_105_41 rfl]
        rw [zs_getR (n := 119) (K := zx_pk (zK L) 119) (ρ := zR) (c := 12) (k := 42) (q := 82) (p := 103) zd_105_42 rfl rfl rfl (by decide) rfl]
        rw [zs_aload_n (ls := [some (.ref 82), some (.int x1), some (.int x2)]) zd_105_45 rfl]
        rw [zp_getI (n := 119) (K := zx_pk (zK L) 119) (σ := r5) (c := 12) (k := 46) (q := 82) (v := (r5 82 46)) zd_105_46 rfl rfl rfl (by decide) rfl]
        rw [zs_iload_n (ls := [some (.ref 82), some (.int x1), some (.int x2)]) zd_105_49 rfl]
        by_cases c6 : 0 ≤ (r5 82 46) ∧ (r5 82 46) < 10
        · rw [if_pos c6] at H
          rw [zp_iastore (n := 119) (K := zx_pk (zK L) 119) (q := 103) (m := 10) (i := (r5 82 46)) (k := (r5 82 46).toNatClampNeg) (x := x1) (z := x1) zd_105_50 rfl ⟨by decide, by decide⟩ (zJ_in c6 rfl) rfl rfl]
          rw [zs_aload_n (ls := [some (.ref 82), some (.int x1), some (.int x2)]) zd_105_51 rfl]
          rw [zs_getR (n := 119) (K := zx_pk (zK L) 119) (ρ := zR) (c := 12) (k := 43) (q := 82) (p := 104) zd_105_52 rfl rfl rfl (by decide) rfl]
          rw [zs_aload_n (ls := [some (.ref 82), some (.int x1), some (.int x2)]) zd_105_55 rfl]
          rw [zp_getI (n := 119) (K := zx_pk (zK L) 119) (σ := (zx_up r5 103 (r5 82 46).toNatClampNeg x1)) (c := 12) (k := 46) (q := 82) (v := (r5 82 46)) zd_105_56 rfl rfl rfl (by decide) (show ((zx_up r5 103 (r5 82 46).toNatClampNeg x1) : zS) 82 46 = (r5 82 46) from ((zx_up_ne (by decide)).trans rfl))]
          rw [zs_iload_n (ls := [some (.ref 82), some (.int x1), some (.int x2)]) zd_105_59 rfl]
          by_cases c7 : 0 ≤ (r5 82 46) ∧ (r5 82 46) < 10
          · rw [if_pos c7] at H
            rw [zp_iastore (n := 119) (K := zx_pk (zK L) 119) (q := 104) (m := 10) (i := (r5 82 46)) (k := (r5 82 46).toNatClampNeg) (x := x2) (z := x2) zd_105_60 rfl ⟨by decide, by decide⟩ (zJ_in c7 rfl) rfl rfl]
            rw [zs_aload_n (ls := [some (.ref 82), some (.int x1), some (.int x2)]) zd_105_61 rfl]
            rw [zs_getR (n := 119) (K := zx_pk (zK L) 119) (ρ := zR) (c := 12) (k := 45) (q := 82) (p := 106) zd_105_62 rfl rfl rfl (by decide) rfl]
            rw [zs_aload_n (ls := [some (.ref 82), some (.int x1), some (.int x2)]) zd_105_65 rfl]
            rw [zp_getI (n := 119) (K := zx_pk (zK L) 119) (σ := (zx_up (zx_up r5 103 (r5 82 46).toNatClampNeg x1) 104 (r5 82 46).toNatClampNeg x2)) (c := 12) (k := 46) (q := 82) (v := (r5 82 46)) zd_105_66 rfl rfl rfl (by decide) (show ((zx_up (zx_up r5 103 (r5 82 46).toNatClampNeg x1) 104 (r5 82 46).toNatClampNeg x2) : zS) 82 46 = (r5 82 46) from ((zx_up_ne (by decide)).trans ((zx_up_ne (by decide)).trans rfl)))]
            rw [zs_aload_n (ls := [some (.ref 82), some (.int x1), some (.int x2)]) zd_105_69 rfl]
            rw [zp_getI (n := 119) (K := zx_pk (zK L) 119) (σ := (zx_up (zx_up r5 103 (r5 82 46).toNatClampNeg x1) 104 (r5 82 46).toNatClampNeg x2)) (c := 12) (k := 40) (q := 82) (v := (r5 82 40)) zd_105_70 rfl rfl rfl (by decide) (show ((zx_up (zx_up r5 103 (r5 82 46).toNatClampNeg x1) 104 (r5 82 46).toNatClampNeg x2) : zS) 82 40 = (r5 82 40) from ((zx_up_ne (by decide)).trans ((zx_up_ne (by decide)).trans rfl)))]
            by_cases c8 : 0 ≤ (r5 82 46) ∧ (r5 82 46) < 10
            · rw [if_pos c8] at H
              rw [zp_iastore (n := 119) (K := zx_pk (zK L) 119) (q := 106) (m := 10) (i := (r5 82 46)) (k := (r5 82 46).toNatClampNeg) (x := (r5 82 40)) (z := (r5 82 40)) zd_105_73 rfl ⟨by decide, by decide⟩ (zJ_in c8 rfl) rfl rfl]
              rw [zs_aload_n (ls := [some (.ref 82), some (.int x1), some (.int x2)]) zd_105_74 rfl]
              rw [zs_dup (a := .ref 82) zd_105_75 rfl]
              rw [zp_getI (n := 119) (K := zx_pk (zK L) 119) (σ := (zx_up (zx_up (zx_up r5 103 (r5 82 46).toNatClampNeg x1) 104 (r5 82 46).toNatClampNeg x2) 106 (r5 82 46).toNatClampNeg (r5 82 40))) (c := 12) (k := 46) (q := 82) (v := (r5 82 46)) zd_105_76 rfl rfl rfl (by decide) (show ((zx_up (zx_up (zx_up r5 103 (r5 82 46).toNatClampNeg x1) 104 (r5 82 46).toNatClampNeg x2) 106 (r5 82 46).toNatClampNeg (r5 82 40)) : zS) 82 46 = (r5 82 46) from ((zx_up_ne (by decide)).trans ((zx_up_ne (by decide)).trans ((zx_up_ne (by decide)).trans rfl))))]
              rw [zs_iconst (z := 1) zd_105_79 (by decide)]
              rw [zp_iadd (x := (r5 82 46)) (y := 1) (z := ((r5 82 46) + 1)) zd_105_80 rfl]
              rw [zs_putI (n := 119) (K := zx_pk (zK L) 119) (c := 12) (k := 46) (q := 82) (x := ((r5 82 46) + 1)) zd_105_81 rfl rfl (by decide +kernel) rfl (by decide)]
              have H := Option.some.inj H
              subst H
              exact zs_return zd_105_84 (by decide +kernel)
            · rw [if_neg c8] at H
              cases H
          · rw [if_neg c7] at H
            cases H
        · rw [if_neg c6] at H
          cases H
      · rw [if_neg c4] at H
        rw [zp_icmp_ne_f (x := (σ 82 46)) (y := 8) (t := 37) zd_105_28 rfl c4]
        rw [zs_aload_n (ls := [some (.ref 82), some (.int x1), some (.int x2)]) zd_105_31 rfl]
        rw [zs_iconst (z := 4) zd_105_32 (by decide)]
        obtain ⟨r9, hr9, H⟩ := Option.bind_eq_some_iff.mp H
        rw [zp_callVv (st := [.int 4, .ref 82]) (as := [.ref 82, .int 4]) (rest := []) (e := 0) zd_105_33 rfl (by decide +kernel) (by decide) rfl rfl (Nat.le_of_ble_eq_true rfl) (zx_rcb_ok rfl (show 82 < 119 by decide)) (Nat.le_of_ble_eq_true rfl) rfl (by decide) (zt_M_fail hr9)]
        have H := Option.some.inj H
        subst H
        exact zs_return zd_105_36 (by decide +kernel)
    · rw [if_neg c3] at H
      rw [zp_if_ne_f (x := r2) (t := 22) zd_105_14 rfl c3]
      rw [zs_aload_n (ls := [some (.ref 82), some (.int x1), some (.int x2)]) zd_105_17 rfl]
      obtain ⟨r10, hr10, H⟩ := Option.bind_eq_some_iff.mp H
      rw [zp_callVv (st := [.ref 82]) (as := [.ref 82]) (rest := []) (e := 1) zd_105_18 rfl (by decide +kernel) (by decide) rfl rfl (Nat.le_of_ble_eq_true rfl) (zx_rcb_ok rfl (show 82 < 119 by decide)) (Nat.le_of_ble_eq_true rfl) rfl (by decide) (zt_M_cannot hr10)]
      have H := Option.some.inj H
      subst H
      exact zs_return zd_105_21 (by decide +kernel)
  · rw [if_neg c1] at H
    rw [zp_if_eq_f (x := (σ 82 9)) (t := 8) zd_105_4 rfl c1]
    have H := Option.some.inj H
    subst H
    exact zs_return zd_105_7 (by decide +kernel)
set_option maxRecDepth 20000 in
theorem zt_M_lead_62 {a b L N : Nat} {k8 : zS → Int32 → Int32 → Option (zS)} (hk8 : ∀ {σ : zS} {τ : zT} {v1 : Int32} {v2 : Int32} {o3 : Option Value} {r : zS}, k8 σ v1 v2 = some r → zx_go 0 108 8 [some (.ref 82), some (.int v1), some (.int v2), o3] [] ((119, a, b), zx_pk (zK L) 119, σ, τ, zR) = some (none, ((119, a, b), zx_pk (zK L) 119, r, τ, zR))) {σ : zS} {τ : zT} {v1 : Int32} {v2 : Int32} {o3 : Option Value} {r : zS} (H : zb_M_lead_62 k8 N σ v1 v2 = some r) : zx_go 0 108 62 [some (.ref 82), some (.int v1), some (.int v2), o3] [] ((119, a, b), zx_pk (zK L) 119, σ, τ, zR) = some (none, ((119, a, b), zx_pk (zK L) 119, r, τ, zR)) := by
  unfold zb_M_lead_62 at H
  rw [zs_goto (t := 8) zd_108_62 rfl]
  exact hk8 H
set_option maxRecDepth 20000 in
theorem zt_M_lead_8 {a b L N : Nat} : ∀ {n : Nat} {σ : zS} {τ : zT} {v1 : Int32} {v2 : Int32} {o3 : Option Value} {r : zS}, zb_M_lead_8 N n σ v1 v2 = some r → zx_go 0 108 8 [some (.ref 82), some (.int v1), some (.int v2), o3] [] ((119, a, b), zx_pk (zK L) 119, σ, τ, zR) = some (none, ((119, a, b), zx_pk (zK L) 119, r, τ, zR)) := by
  intro n
  induction n with
  | zero =>
    intro _ _ _ _ _ _ H
    cases H
  | succ n ih =>
    intro σ τ v1 v2 o3 r H
    rw [zb_M_lead_8] at H
    rw [zs_aload_n (ls := [some (.ref 82), some (.int v1), some (.int v2), o3]) zd_108_8 rfl]
    rw [zp_getI (n := 119) (K := zx_pk (zK L) 119) (σ := σ) (c := 12) (k := 37) (q := 82) (v := (σ 82 37)) zd_108_9 rfl rfl rfl (by decide) rfl]
    rw [zs_iconst (z := (-1)) zd_108_12 (by decide)]
    by_cases c1 : (σ 82 37) = (-1)
    · rw [if_pos c1] at H
      rw [zp_icmp_eq_t (x := (σ 82 37)) (y := (-1)) (t := 65) zd_108_13 rfl c1]
      have H := Option.some.inj H
      subst H
      exact zs_return zd_108_65 (by decide +kernel)
    · rw [if_neg c1] at H
      rw [zp_icmp_eq_f (x := (σ 82 37)) (y := (-1)) (t := 65) zd_108_13 rfl c1]
      rw [zs_aload_n (ls := [some (.ref 82), some (.int v1), some (.int v2), o3]) zd_108_16 rfl]
      rw [zp_getI (n := 119) (K := zx_pk (zK L) 119) (σ := σ) (c := 12) (k := 37) (q := 82) (v := (σ 82 37)) zd_108_17 rfl rfl rfl (by decide) rfl]
      rw [zs_istore_n (x := (σ 82 37)) (ls' := [some (.ref 82), some (.int v1), some (.int v2), some (.int (σ 82 37))]) zd_108_20 (Nat.le_of_ble_eq_true rfl) rfl]
      rw [zs_aload_n (ls := [some (.ref 82), some (.int v1), some (.int v2), some (.int (σ 82 37))]) zd_108_21 rfl]
      rw [zs_aload_n (ls := [some (.ref 82), some (.int v1), some (.int v2), some (.int (σ 82 37))]) zd_108_22 rfl]
      rw [zs_getR (n := 119) (K := zx_pk (zK L) 119) (ρ := zR) (c := 12) (k := 38) (q := 82) (p := 102) zd_108_23 rfl rfl rfl (by decide) rfl]
      rw [zs_iload_n (ls := [some (.ref 82), some (.int v1), some (.int v2), some (.int (σ 82 37))]) zd_108_26 rfl]
      by_cases c2 : 0 ≤ (σ 82 37) ∧ (σ 82 37) < 48
      · rw [if_pos c2] at H
        rw [zp_iaload (n := 119) (K := zx_pk (zK L) 119) (σ := σ) (q := 102) (m := 48) (i := (σ 82 37)) (k := (σ 82 37).toNatClampNeg) (v := (σ 102 (σ 82 37).toNatClampNeg)) zd_108_27 rfl (by decide) (zJ_in c2 rfl) rfl rfl]
        rw [zs_putI (n := 119) (K := zx_pk (zK L) 119) (c := 12) (k := 37) (q := 82) (x := (σ 102 (σ 82 37).toNatClampNeg)) zd_108_28 rfl rfl (by decide +kernel) rfl (by decide)]
        rw [zs_iload_n (ls := [some (.ref 82), some (.int v1), some (.int v2), some (.int (σ 82 37))]) zd_108_31 rfl]
        rw [zs_iconst (z := 2) zd_108_32 (by decide)]
        rw [zp_irem (x := (σ 82 37)) (y := 2) (z := (zJ_rem (σ 82 37) 2)) zd_108_33 (by decide) rfl]
        by_cases c3 : ¬ (zJ_rem (σ 82 37) 2) = 0
        · rw [if_pos c3] at H
          rw [zp_if_ne_t (x := (zJ_rem (σ 82 37) 2)) (t := 51) zd_108_34 rfl c3]
          rw [zs_aload_n (ls := [some (.ref 82), some (.int v1), some (.int v2), some (.int (σ 82 37))]) zd_108_51 rfl]
          rw [zs_getR (n := 119) (K := zx_pk (zK L) 119) (ρ := zR) (c := 12) (k := 30) (q := 82) (p := 95) zd_108_52 rfl rfl rfl (by decide) rfl]
          rw [zs_iload_n (ls := [some (.ref 82), some (.int v1), some (.int v2), some (.int (σ 82 37))]) zd_108_55 rfl]
          rw [zs_iload_n (ls := [some (.ref 82), some (.int v1), some (.int v2), some (.int (σ 82 37))]) zd_108_56 rfl]
          rw [zs_iconst (z := 2) zd_108_57 (by decide)]
          rw [zp_idiv (x := (σ 82 37)) (y := 2) (z := ((σ 82 37) / 2)) zd_108_58 (by decide) rfl]
          rw [zp_iadd (x := v2) (y := ((σ 82 37) / 2)) (z := (v2 + ((σ 82 37) / 2))) zd_108_59 rfl]
          rw [zs_iload_n (ls := [some (.ref 82), some (.int v1), some (.int v2), some (.int (σ 82 37))]) zd_108_60 rfl]
          by_cases c4 : 0 ≤ (v2 + ((σ 82 37) / 2)) ∧ (v2 + ((σ 82 37) / 2)) < 96
          · rw [if_pos c4] at H
            rw [zp_iastore (n := 119) (K := zx_pk (zK L) 119) (q := 95) (m := 96) (i := (v2 + ((σ 82 37) / 2))) (k := (v2 + ((σ 82 37) / 2)).toNatClampNeg) (x := v1) (z := v1) zd_108_61 rfl ⟨by decide, by decide⟩ (zJ_in c4 rfl) rfl rfl]
            exact zt_M_lead_62 (hk8 := ih) H
          · rw [if_neg c4] at H
            cases H
        · rw [if_neg c3] at H
          rw [zp_if_ne_f (x := (zJ_rem (σ 82 37) 2)) (t := 51) zd_108_34 rfl c3]
          rw [zs_aload_n (ls := [some (.ref 82), some (.int v1), some (.int v2), some (.int (σ 82 37))]) zd_108_37 rfl]
          rw [zs_getR (n := 119) (K := zx_pk (zK L) 119) (ρ := zR) (c := 12) (k := 29) (q := 82) (p := 94) zd_108_38 rfl rfl rfl (by decide) rfl]
          rw [zs_iload_n (ls := [some (.ref 82), some (.int v1), some (.int v2), some (.int (σ 82 37))]) zd_108_41 rfl]
          rw [zs_iload_n (ls := [some (.ref 82), some (.int v1), some (.int v2), some (.int (σ 82 37))]) zd_108_42 rfl]
          rw [zs_iconst (z := 2) zd_108_43 (by decide)]
          rw [zp_idiv (x := (σ 82 37)) (y := 2) (z := ((σ 82 37) / 2)) zd_108_44 (by decide) rfl]
          rw [zp_iadd (x := v2) (y := ((σ 82 37) / 2)) (z := (v2 + ((σ 82 37) / 2))) zd_108_45 rfl]
          rw [zs_iload_n (ls := [some (.ref 82), some (.int v1), some (.int v2), some (.int (σ 82 37))]) zd_108_46 rfl]
          by_cases c5 : 0 ≤ (v2 + ((σ 82 37) / 2)) ∧ (v2 + ((σ 82 37) / 2)) < 96
          · rw [if_pos c5] at H
            rw [zp_iastore (n := 119) (K := zx_pk (zK L) 119) (q := 94) (m := 96) (i := (v2 + ((σ 82 37) / 2))) (k := (v2 + ((σ 82 37) / 2)).toNatClampNeg) (x := v1) (z := v1) zd_108_47 rfl ⟨by decide, by decide⟩ (zJ_in c5 rfl) rfl rfl]
            rw [zs_goto (t := 62) zd_108_48 rfl]
            exact zt_M_lead_62 (hk8 := ih) H
          · rw [if_neg c5] at H
            cases H
      · rw [if_neg c2] at H
        cases H
set_option maxRecDepth 20000 in
theorem zt_M_lead {a b L N : Nat} {σ : zS} {τ : zT} {x1 : Int32} {r : zS} (H : zf_M_lead N σ x1 = some r) : zx_go 0 108 0 [some (.ref 82), some (.int x1), none, none] [] ((119, a, b), zx_pk (zK L) 119, σ, τ, zR) = some (none, ((119, a, b), zx_pk (zK L) 119, r, τ, zR)) := by
  unfold zf_M_lead at H
  rw [zs_bipush (z := 24) zd_108_0 (by decide)]
  rw [zs_aload_n (ls := [some (.ref 82), some (.int x1), none, none]) zd_108_2 rfl]
  rw [zp_getI (n := 119) (K := zx_pk (zK L) 119) (σ := σ) (c := 12) (k := 39) (q := 82) (v := (σ 82 39)) zd_108_3 rfl rfl rfl (by decide) rfl]
  rw [zp_imul (x := 24) (y := (σ 82 39)) (z := (24 * (σ 82 39))) zd_108_6 rfl]
  rw [zs_istore_n (x := (24 * (σ 82 39))) (ls' := [some (.ref 82), some (.int x1), some (.int (24 * (σ 82 39))), none]) zd_108_7 (Nat.le_of_ble_eq_true rfl) rfl]
  exact zt_M_lead_8  H
set_option maxRecDepth 20000 in
theorem zt_M_wayOf {a b L : Nat} {σ : zS} {τ : zT} {x1 : Int32} {x2 : Int32} {r : Int32 × zS} (H : zf_M_wayOf σ x1 x2 = some r) : zx_go 0 109 0 [some (.ref 82), some (.int x1), some (.int x2)] [] ((119, a, b), zx_pk (zK L) 119, σ, τ, zR) = some (some (.int r.1), ((119, a, b), zx_pk (zK L) 119, r.2, τ, zR)) := by
  unfold zf_M_wayOf at H
  rw [zs_aload_n (ls := [some (.ref 82), some (.int x1), some (.int x2)]) zd_109_0 rfl]
  rw [zs_getR (n := 119) (K := zx_pk (zK L) 119) (ρ := zR) (c := 12) (k := 38) (q := 82) (p := 102) zd_109_1 rfl rfl rfl (by decide) rfl]
  rw [zs_iconst (z := 2) zd_109_4 (by decide)]
  rw [zs_iload_n (ls := [some (.ref 82), some (.int x1), some (.int x2)]) zd_109_5 rfl]
  rw [zp_imul (x := 2) (y := x1) (z := (2 * x1)) zd_109_6 rfl]
  rw [zs_iload_n (ls := [some (.ref 82), some (.int x1), some (.int x2)]) zd_109_7 rfl]
  rw [zp_iadd (x := (2 * x1)) (y := x2) (z := ((2 * x1) + x2)) zd_109_8 rfl]
  rw [zs_iconst (z := (-1)) zd_109_9 (by decide)]
  by_cases c1 : 0 ≤ ((2 * x1) + x2) ∧ ((2 * x1) + x2) < 48
  · rw [if_pos c1] at H
    rw [zp_iastore (n := 119) (K := zx_pk (zK L) 119) (q := 102) (m := 48) (i := ((2 * x1) + x2)) (k := ((2 * x1) + x2).toNatClampNeg) (x := (-1)) (z := (-1)) zd_109_10 rfl ⟨by decide, by decide⟩ (zJ_in c1 rfl) rfl rfl]
    rw [zs_iconst (z := 2) zd_109_11 (by decide)]
    rw [zs_iload_n (ls := [some (.ref 82), some (.int x1), some (.int x2)]) zd_109_12 rfl]
    rw [zp_imul (x := 2) (y := x1) (z := (2 * x1)) zd_109_13 rfl]
    rw [zs_iload_n (ls := [some (.ref 82), some (.int x1), some (.int x2)]) zd_109_14 rfl]
    rw [zp_iadd (x := (2 * x1)) (y := x2) (z := ((2 * x1) + x2)) zd_109_15 rfl]
    have H := Option.some.inj H
    subst H
    exact zs_ireturn zd_109_16 rfl
  · rw [if_neg c1] at H
    cases H
set_option maxRecDepth 20000 in
theorem zt_M_addStep {a b L N : Nat} {σ : zS} {τ : zT} {x1 : Int32} {x2 : Int32} {r : Int32 × zS} (H : zf_M_addStep N σ x1 x2 = some r) : zx_go 1 107 0 [some (.ref 82), some (.int x1), some (.int x2), none, none] [] ((119, a, b), zx_pk (zK L) 119, σ, τ, zR) = some (some (.int r.1), ((119, a, b), zx_pk (zK L) 119, r.2, τ, zR)) := by
  unfold zf_M_addStep at H
  rw [zs_aload_n (ls := [some (.ref 82), some (.int x1), some (.int x2), none, none]) zd_107_0 rfl]
  rw [zs_getR (n := 119) (K := zx_pk (zK L) 119) (ρ := zR) (c := 12) (k := 24) (q := 82) (p := 90) zd_107_1 rfl rfl rfl (by decide) rfl]
  rw [zs_aload_n (ls := [some (.ref 82), some (.int x1), some (.int x2), none, none]) zd_107_4 rfl]
  rw [zp_getI (n := 119) (K := zx_pk (zK L) 119) (σ := σ) (c := 12) (k := 39) (q := 82) (v := (σ 82 39)) zd_107_5 rfl rfl rfl (by decide) rfl]
  by_cases c1 : 0 ≤ (σ 82 39) ∧ (σ 82 39) < 4
  · rw [if_pos c1] at H
    rw [zp_iaload (n := 119) (K := zx_pk (zK L) 119) (σ := σ) (q := 90) (m := 4) (i := (σ 82 39)) (k := (σ 82 39).toNatClampNeg) (v := (σ 90 (σ 82 39).toNatClampNeg)) zd_107_8 rfl (by decide) (zJ_in c1 rfl) rfl rfl]
    rw [zs_istore_n (x := (σ 90 (σ 82 39).toNatClampNeg)) (ls' := [some (.ref 82), some (.int x1), some (.int x2), some (.int (σ 90 (σ 82 39).toNatClampNeg)), none]) zd_107_9 (Nat.le_of_ble_eq_true rfl) rfl]
    rw [zs_iload_n (ls := [some (.ref 82), some (.int x1), some (.int x2), some (.int (σ 90 (σ 82 39).toNatClampNeg)), none]) zd_107_10 rfl]
    rw [zs_bipush (z := 24) zd_107_11 (by decide)]
    by_cases c2 : ¬ (σ 90 (σ 82 39).toNatClampNeg) = 24
    · rw [if_pos c2] at H
      rw [zp_icmp_ne_t (x := (σ 90 (σ 82 39).toNatClampNeg)) (y := 24) (t := 23) zd_107_13 rfl c2]
      rw [zs_bipush (z := 24) zd_107_23 (by decide)]
      rw [zs_aload_n (ls := [some (.ref 82), some (.int x1), some (.int x2), some (.int (σ 90 (σ 82 39).toNatClampNeg)), none]) zd_107_25 rfl]
      rw [zp_getI (n := 119) (K := zx_pk (zK L) 119) (σ := σ) (c := 12) (k := 39) (q := 82) (v := (σ 82 39)) zd_107_26 rfl rfl rfl (by decide) rfl]
      rw [zp_imul (x := 24) (y := (σ 82 39)) (z := (24 * (σ 82 39))) zd_107_29 rfl]
      rw [zs_iload_n (ls := [some (.ref 82), some (.int x1), some (.int x2), some (.int (σ 90 (σ 82 39).toNatClampNeg)), none]) zd_107_30 rfl]
      rw [zp_iadd (x := (24 * (σ 82 39))) (y := (σ 90 (σ 82 39).toNatClampNeg)) (z := ((24 * (σ 82 39)) + (σ 90 (σ 82 39).toNatClampNeg))) zd_107_31 rfl]
      rw [zs_istore (x := ((24 * (σ 82 39)) + (σ 90 (σ 82 39).toNatClampNeg))) (ls' := [some (.ref 82), some (.int x1), some (.int x2), some (.int (σ 90 (σ 82 39).toNatClampNeg)), some (.int ((24 * (σ 82 39)) + (σ 90 (σ 82 39).toNatClampNeg)))]) zd_107_32 (Nat.le_of_ble_eq_true rfl) rfl]
      rw [zs_aload_n (ls := [some (.ref 82), some (.int x1), some (.int x2), some (.int (σ 90 (σ 82 39).toNatClampNeg)), some (.int ((24 * (σ 82 39)) + (σ 90 (σ 82 39).toNatClampNeg)))]) zd_107_34 rfl]
      rw [zs_getR (n := 119) (K := zx_pk (zK L) 119) (ρ := zR) (c := 12) (k := 27) (q := 82) (p := 92) zd_107_35 rfl rfl rfl (by decide) rfl]
      rw [zs_iload (ls := [some (.ref 82), some (.int x1), some (.int x2), some (.int (σ 90 (σ 82 39).toNatClampNeg)), some (.int ((24 * (σ 82 39)) + (σ 90 (σ 82 39).toNatClampNeg)))]) zd_107_38 rfl]
      rw [zs_iload_n (ls := [some (.ref 82), some (.int x1), some (.int x2), some (.int (σ 90 (σ 82 39).toNatClampNeg)), some (.int ((24 * (σ 82 39)) + (σ 90 (σ 82 39).toNatClampNeg)))]) zd_107_40 rfl]
      by_cases c3 : 0 ≤ ((24 * (σ 82 39)) + (σ 90 (σ 82 39).toNatClampNeg)) ∧ ((24 * (σ 82 39)) + (σ 90 (σ 82 39).toNatClampNeg)) < 96
      · rw [if_pos c3] at H
        rw [zp_iastore (n := 119) (K := zx_pk (zK L) 119) (q := 92) (m := 96) (i := ((24 * (σ 82 39)) + (σ 90 (σ 82 39).toNatClampNeg))) (k := ((24 * (σ 82 39)) + (σ 90 (σ 82 39).toNatClampNeg)).toNatClampNeg) (x := x1) (z := x1) zd_107_41 rfl ⟨by decide, by decide⟩ (zJ_in c3 rfl) rfl rfl]
        rw [zs_aload_n (ls := [some (.ref 82), some (.int x1), some (.int x2), some (.int (σ 90 (σ 82 39).toNatClampNeg)), some (.int ((24 * (σ 82 39)) + (σ 90 (σ 82 39).toNatClampNeg)))]) zd_107_42 rfl]
        rw [zs_getR (n := 119) (K := zx_pk (zK L) 119) (ρ := zR) (c := 12) (k := 28) (q := 82) (p := 93) zd_107_43 rfl rfl rfl (by decide) rfl]
        rw [zs_iload (ls := [some (.ref 82), some (.int x1), some (.int x2), some (.int (σ 90 (σ 82 39).toNatClampNeg)), some (.int ((24 * (σ 82 39)) + (σ 90 (σ 82 39).toNatClampNeg)))]) zd_107_46 rfl]
        rw [zs_iload_n (ls := [some (.ref 82), some (.int x1), some (.int x2), some (.int (σ 90 (σ 82 39).toNatClampNeg)), some (.int ((24 * (σ 82 39)) + (σ 90 (σ 82 39).toNatClampNeg)))]) zd_107_48 rfl]
        by_cases c4 : 0 ≤ ((24 * (σ 82 39)) + (σ 90 (σ 82 39).toNatClampNeg)) ∧ ((24 * (σ 82 39)) + (σ 90 (σ 82 39).toNatClampNeg)) < 96
        · rw [if_pos c4] at H
          rw [zp_iastore (n := 119) (K := zx_pk (zK L) 119) (q := 93) (m := 96) (i := ((24 * (σ 82 39)) + (σ 90 (σ 82 39).toNatClampNeg))) (k := ((24 * (σ 82 39)) + (σ 90 (σ 82 39).toNatClampNeg)).toNatClampNeg) (x := x2) (z := x2) zd_107_49 rfl ⟨by decide, by decide⟩ (zJ_in c4 rfl) rfl rfl]
          rw [zs_aload_n (ls := [some (.ref 82), some (.int x1), some (.int x2), some (.int (σ 90 (σ 82 39).toNatClampNeg)), some (.int ((24 * (σ 82 39)) + (σ 90 (σ 82 39).toNatClampNeg)))]) zd_107_50 rfl]
          rw [zs_getR (n := 119) (K := zx_pk (zK L) 119) (ρ := zR) (c := 12) (k := 29) (q := 82) (p := 94) zd_107_51 rfl rfl rfl (by decide) rfl]
          rw [zs_iload (ls := [some (.ref 82), some (.int x1), some (.int x2), some (.int (σ 90 (σ 82 39).toNatClampNeg)), some (.int ((24 * (σ 82 39)) + (σ 90 (σ 82 39).toNatClampNeg)))]) zd_107_54 rfl]
          rw [zs_iconst (z := (-1)) zd_107_56 (by decide)]
          by_cases c5 : 0 ≤ ((24 * (σ 82 39)) + (σ 90 (σ 82 39).toNatClampNeg)) ∧ ((24 * (σ 82 39)) + (σ 90 (σ 82 39).toNatClampNeg)) < 96
          · rw [if_pos c5] at H
            rw [zp_iastore (n := 119) (K := zx_pk (zK L) 119) (q := 94) (m := 96) (i := ((24 * (σ 82 39)) + (σ 90 (σ 82 39).toNatClampNeg))) (k := ((24 * (σ 82 39)) + (σ 90 (σ 82 39).toNatClampNeg)).toNatClampNeg) (x := (-1)) (z := (-1)) zd_107_57 rfl ⟨by decide, by decide⟩ (zJ_in c5 rfl) rfl rfl]
            rw [zs_aload_n (ls := [some (.ref 82), some (.int x1), some (.int x2), some (.int (σ 90 (σ 82 39).toNatClampNeg)), some (.int ((24 * (σ 82 39)) + (σ 90 (σ 82 39).toNatClampNeg)))]) zd_107_58 rfl]
            rw [zs_getR (n := 119) (K := zx_pk (zK L) 119) (ρ := zR) (c := 12) (k := 30) (q := 82) (p := 95) zd_107_59 rfl rfl rfl (by decide) rfl]
            rw [zs_iload (ls := [some (.ref 82), some (.int x1), some (.int x2), some (.int (σ 90 (σ 82 39).toNatClampNeg)), some (.int ((24 * (σ 82 39)) + (σ 90 (σ 82 39).toNatClampNeg)))]) zd_107_62 rfl]
            rw [zs_iconst (z := (-1)) zd_107_64 (by decide)]
            by_cases c6 : 0 ≤ ((24 * (σ 82 39)) + (σ 90 (σ 82 39).toNatClampNeg)) ∧ ((24 * (σ 82 39)) + (σ 90 (σ 82 39).toNatClampNeg)) < 96
            · rw [if_pos c6] at H
              rw [zp_iastore (n := 119) (K := zx_pk (zK L) 119) (q := 95) (m := 96) (i := ((24 * (σ 82 39)) + (σ 90 (σ 82 39).toNatClampNeg))) (k := ((24 * (σ 82 39)) + (σ 90 (σ 82 39).toNatClampNeg)).toNatClampNeg) (x := (-1)) (z := (-1)) zd_107_65 rfl ⟨by decide, by decide⟩ (zJ_in c6 rfl) rfl rfl]
              rw [zs_aload_n (ls := [some (.ref 82), some (.int x1), some (.int x2), some (.int (σ 90 (σ 82 39).toNatClampNeg)), some (.int ((24 * (σ 82 39)) + (σ 90 (σ 82 39).toNatClampNeg)))]) zd_107_66 rfl]
              rw [zs_getR (n := 119) (K := zx_pk (zK L) 119) (ρ := zR) (c := 12) (k := 31) (q := 82) (p := 96) zd_107_67 rfl rfl rfl (by decide) rfl]
              rw [zs_iload (ls := [some (.ref 82), some (.int x1), some (.int x2), some (.int (σ 90 (σ 82 39).toNatClampNeg)), some (.int ((24 * (σ 82 39)) + (σ 90 (σ 82 39).toNatClampNeg)))]) zd_107_70 rfl]
              rw [zs_aload_n (ls := [some (.ref 82), some (.int x1), some (.int x2), some (.int (σ 90 (σ 82 39).toNatClampNeg)), some (.int ((24 * (σ 82 39)) + (σ 90 (σ 82 39).toNatClampNeg)))]) zd_107_72 rfl]
              rw [zp_getI (n := 119) (K := zx_pk (zK L) 119) (σ := (zx_up (zx_up (zx_up (zx_up σ 92 ((24 * (σ 82 39)) + (σ 90 (σ 82 39).toNatClampNeg)).toNatClampNeg x1) 93 ((24 * (σ 82 39)) + (σ 90 (σ 82 39).toNatClampNeg)).toNatClampNeg x2) 94 ((24 * (σ 82 39)) + (σ 90 (σ 82 39).toNatClampNeg)).toNatClampNeg (-1)) 95 ((24 * (σ 82 39)) + (σ 90 (σ 82 39).toNatClampNeg)).toNatClampNeg (-1))) (c := 12) (k := 40) (q := 82) (v := (σ 82 40)) zd_107_73 rfl rfl rfl (by decide) (show ((zx_up (zx_up (zx_up (zx_up σ 92 ((24 * (σ 82 39)) + (σ 90 (σ 82 39).toNatClampNeg)).toNatClampNeg x1) 93 ((24 * (σ 82 39)) + (σ 90 (σ 82 39).toNatClampNeg)).toNatClampNeg x2) 94 ((24 * (σ 82 39)) + (σ 90 (σ 82 39).toNatClampNeg)).toNatClampNeg (-1)) 95 ((24 * (σ 82 39)) + (σ 90 (σ 82 39).toNatClampNeg)).toNatClampNeg (-1)) : zS) 82 40 = (σ 82 40) from ((zx_up_ne (by decide)).trans ((zx_up_ne (by decide)).trans ((zx_up_ne (by decide)).trans ((zx_up_ne (by decide)).trans rfl)))))]
              by_cases c7 : 0 ≤ ((24 * (σ 82 39)) + (σ 90 (σ 82 39).toNatClampNeg)) ∧ ((24 * (σ 82 39)) + (σ 90 (σ 82 39).toNatClampNeg)) < 96
              · rw [if_pos c7] at H
                rw [zp_iastore (n := 119) (K := zx_pk (zK L) 119) (q := 96) (m := 96) (i := ((24 * (σ 82 39)) + (σ 90 (σ 82 39).toNatClampNeg))) (k := ((24 * (σ 82 39)) + (σ 90 (σ 82 39).toNatClampNeg)).toNatClampNeg) (x := (σ 82 40)) (z := (σ 82 40)) zd_107_76 rfl ⟨by decide, by decide⟩ (zJ_in c7 rfl) rfl rfl]
                rw [zs_aload_n (ls := [some (.ref 82), some (.int x1), some (.int x2), some (.int (σ 90 (σ 82 39).toNatClampNeg)), some (.int ((24 * (σ 82 39)) + (σ 90 (σ 82 39).toNatClampNeg)))]) zd_107_77 rfl]
                rw [zs_getR (n := 119) (K := zx_pk (zK L) 119) (ρ := zR) (c := 12) (k := 32) (q := 82) (p := 97) zd_107_78 rfl rfl rfl (by decide) rfl]
                rw [zs_iload (ls := [some (.ref 82), some (.int x1), some (.int x2), some (.int (σ 90 (σ 82 39).toNatClampNeg)), some (.int ((24 * (σ 82 39)) + (σ 90 (σ 82 39).toNatClampNeg)))]) zd_107_81 rfl]
                rw [zs_aload_n (ls := [some (.ref 82), some (.int x1), some (.int x2), some (.int (σ 90 (σ 82 39).toNatClampNeg)), some (.int ((24 * (σ 82 39)) + (σ 90 (σ 82 39).toNatClampNeg)))]) zd_107_83 rfl]
                rw [zp_getI (n := 119) (K := zx_pk (zK L) 119) (σ := (zx_up (zx_up (zx_up (zx_up (zx_up σ 92 ((24 * (σ 82 39)) + (σ 90 (σ 82 39).toNatClampNeg)).toNatClampNeg x1) 93 ((24 * (σ 82 39)) + (σ 90 (σ 82 39).toNatClampNeg)).toNatClampNeg x2) 94 ((24 * (σ 82 39)) + (σ 90 (σ 82 39).toNatClampNeg)).toNatClampNeg (-1)) 95 ((24 * (σ 82 39)) + (σ 90 (σ 82 39).toNatClampNeg)).toNatClampNeg (-1)) 96 ((24 * (σ 82 39)) + (σ 90 (σ 82 39).toNatClampNeg)).toNatClampNeg (σ 82 40))) (c := 12) (k := 41) (q := 82) (v := (σ 82 41)) zd_107_84 rfl rfl rfl (by decide) (show ((zx_up (zx_up (zx_up (zx_up (zx_up σ 92 ((24 * (σ 82 39)) + (σ 90 (σ 82 39).toNatClampNeg)).toNatClampNeg x1) 93 ((24 * (σ 82 39)) + (σ 90 (σ 82 39).toNatClampNeg)).toNatClampNeg x2) 94 ((24 * (σ 82 39)) + (σ 90 (σ 82 39).toNatClampNeg)).toNatClampNeg (-1)) 95 ((24 * (σ 82 39)) + (σ 90 (σ 82 39).toNatClampNeg)).toNatClampNeg (-1)) 96 ((24 * (σ 82 39)) + (σ 90 (σ 82 39).toNatClampNeg)).toNatClampNeg (σ 82 40)) : zS) 82 41 = (σ 82 41) from ((zx_up_ne (by decide)).trans ((zx_up_ne (by decide)).trans ((zx_up_ne (by decide)).trans ((zx_up_ne (by decide)).trans ((zx_up_ne (by decide)).trans rfl))))))]
                by_cases c8 : 0 ≤ ((24 * (σ 82 39)) + (σ 90 (σ 82 39).toNatClampNeg)) ∧ ((24 * (σ 82 39)) + (σ 90 (σ 82 39).toNatClampNeg)) < 96
                · rw [if_pos c8] at H
                  rw [zp_iastore (n := 119) (K := zx_pk (zK L) 119) (q := 97) (m := 96) (i := ((24 * (σ 82 39)) + (σ 90 (σ 82 39).toNatClampNeg))) (k := ((24 * (σ 82 39)) + (σ 90 (σ 82 39).toNatClampNeg)).toNatClampNeg) (x := (σ 82 41)) (z := (σ 82 41)) zd_107_87 rfl ⟨by decide, by decide⟩ (zJ_in c8 rfl) rfl rfl]
                  rw [zs_aload_n (ls := [some (.ref 82), some (.int x1), some (.int x2), some (.int (σ 90 (σ 82 39).toNatClampNeg)), some (.int ((24 * (σ 82 39)) + (σ 90 (σ 82 39).toNatClampNeg)))]) zd_107_88 rfl]
                  rw [zs_iload_n (ls := [some (.ref 82), some (.int x1), some (.int x2), some (.int (σ 90 (σ 82 39).toNatClampNeg)), some (.int ((24 * (σ 82 39)) + (σ 90 (σ 82 39).toNatClampNeg)))]) zd_107_89 rfl]
                  obtain ⟨r9, hr9, H⟩ := Option.bind_eq_some_iff.mp H
                  rw [zp_callVv (st := [.int (σ 90 (σ 82 39).toNatClampNeg), .ref 82]) (as := [.ref 82, .int (σ 90 (σ 82 39).toNatClampNeg)]) (rest := []) (e := 0) zd_107_90 rfl (by decide +kernel) (by decide) rfl rfl (Nat.le_of_ble_eq_true rfl) (zx_rcb_ok rfl (show 82 < 119 by decide)) (Nat.le_of_ble_eq_true rfl) rfl (by decide) (zt_M_lead hr9)]
                  rw [zs_aload_n (ls := [some (.ref 82), some (.int x1), some (.int x2), some (.int (σ 90 (σ 82 39).toNatClampNeg)), some (.int ((24 * (σ 82 39)) + (σ 90 (σ 82 39).toNatClampNeg)))]) zd_107_93 rfl]
                  rw [zs_getR (n := 119) (K := zx_pk (zK L) 119) (ρ := zR) (c := 12) (k := 24) (q := 82) (p := 90) zd_107_94 rfl rfl rfl (by decide) rfl]
                  rw [zs_aload_n (ls := [some (.ref 82), some (.int x1), some (.int x2), some (.int (σ 90 (σ 82 39).toNatClampNeg)), some (.int ((24 * (σ 82 39)) + (σ 90 (σ 82 39).toNatClampNeg)))]) zd_107_97 rfl]
                  rw [zp_getI (n := 119) (K := zx_pk (zK L) 119) (σ := r9) (c := 12) (k := 39) (q := 82) (v := (r9 82 39)) zd_107_98 rfl rfl rfl (by decide) rfl]
                  rw [zs_dup2 (a := .int (r9 82 39)) (b := .ref 90) zd_107_101 ⟨rfl, rfl⟩]
                  by_cases c10 : 0 ≤ (r9 82 39) ∧ (r9 82 39) < 4
                  · rw [if_pos c10] at H
                    rw [zp_iaload (n := 119) (K := zx_pk (zK L) 119) (σ := r9) (q := 90) (m := 4) (i := (r9 82 39)) (k := (r9 82 39).toNatClampNeg) (v := (r9 90 (r9 82 39).toNatClampNeg)) zd_107_102 rfl (by decide) (zJ_in c10 rfl) rfl rfl]
                    rw [zs_iconst (z := 1) zd_107_103 (by decide)]
                    rw [zp_iadd (x := (r9 90 (r9 82 39).toNatClampNeg)) (y := 1) (z := ((r9 90 (r9 82 39).toNatClampNeg) + 1)) zd_107_104 rfl]
                    by_cases c11 : 0 ≤ (r9 82 39) ∧ (r9 82 39) < 4
                    · rw [if_pos c11] at H
                      rw [zp_iastore (n := 119) (K := zx_pk (zK L) 119) (q := 90) (m := 4) (i := (r9 82 39)) (k := (r9 82 39).toNatClampNeg) (x := ((r9 90 (r9 82 39).toNatClampNeg) + 1)) (z := ((r9 90 (r9 82 39).toNatClampNeg) + 1)) zd_107_105 rfl ⟨by decide, by decide⟩ (zJ_in c11 rfl) rfl rfl]
                      rw [zs_iload_n (ls := [some (.ref 82), some (.int x1), some (.int x2), some (.int (σ 90 (σ 82 39).toNatClampNeg)), some (.int ((24 * (σ 82 39)) + (σ 90 (σ 82 39).toNatClampNeg)))]) zd_107_106 rfl]
                      rw [zs_bipush (z := 13) zd_107_107 (by decide)]
                      by_cases c12 : x1 = 13
                      · rw [if_pos c12] at H
                        rw [zp_icmp_eq_t (x := x1) (y := 13) (t := 122) zd_107_109 rfl c12]
                        rw [zs_iload_n (ls := [some (.ref 82), some (.int x1), some (.int x2), some (.int (σ 90 (σ 82 39).toNatClampNeg)), some (.int ((24 * (σ 82 39)) + (σ 90 (σ 82 39).toNatClampNeg)))]) zd_107_122 rfl]
                        have H := Option.some.inj H
                        subst H
                        exact zs_ireturn zd_107_123 rfl
                      · rw [if_neg c12] at H
                        rw [zp_icmp_eq_f (x := x1) (y := 13) (t := 122) zd_107_109 rfl c12]
                        rw [zs_aload_n (ls := [some (.ref 82), some (.int x1), some (.int x2), some (.int (σ 90 (σ 82 39).toNatClampNeg)), some (.int ((24 * (σ 82 39)) + (σ 90 (σ 82 39).toNatClampNeg)))]) zd_107_112 rfl]
                        rw [zs_aload_n (ls := [some (.ref 82), some (.int x1), some (.int x2), some (.int (σ 90 (σ 82 39).toNatClampNeg)), some (.int ((24 * (σ 82 39)) + (σ 90 (σ 82 39).toNatClampNeg)))]) zd_107_113 rfl]
                        rw [zs_iload_n (ls := [some (.ref 82), some (.int x1), some (.int x2), some (.int (σ 90 (σ 82 39).toNatClampNeg)), some (.int ((24 * (σ 82 39)) + (σ 90 (σ 82 39).toNatClampNeg)))]) zd_107_114 rfl]
                        rw [zs_iconst (z := 0) zd_107_115 (by decide)]
                        obtain ⟨r13, hr13, H⟩ := Option.bind_eq_some_iff.mp H
                        rw [zp_callVi (x := r13.1) (st := [.int 0, .int (σ 90 (σ 82 39).toNatClampNeg), .ref 82, .ref 82]) (as := [.ref 82, .int (σ 90 (σ 82 39).toNatClampNeg), .int 0]) (rest := [.ref 82]) (e := 0) zd_107_116 rfl (by decide +kernel) (by decide) rfl rfl (Nat.le_of_ble_eq_true rfl) (zx_rcb_ok rfl (show 82 < 119 by decide)) (Nat.le_of_ble_eq_true rfl) rfl (by decide) (zt_M_wayOf hr13)]
                        rw [zs_putI (n := 119) (K := zx_pk (zK L) 119) (c := 12) (k := 37) (q := 82) (x := r13.1) zd_107_119 rfl rfl (by decide +kernel) rfl (by decide)]
                        rw [zs_iload_n (ls := [some (.ref 82), some (.int x1), some (.int x2), some (.int (σ 90 (σ 82 39).toNatClampNeg)), some (.int ((24 * (σ 82 39)) + (σ 90 (σ 82 39).toNatClampNeg)))]) zd_107_122 rfl]
                        have H := Option.some.inj H
                        subst H
                        exact zs_ireturn zd_107_123 rfl
                    · rw [if_neg c11] at H
                      cases H
                  · rw [if_neg c10] at H
                    cases H
                · rw [if_neg c8] at H
                  cases H
              · rw [if_neg c7] at H
                cases H
            · rw [if_neg c6] at H
              cases H
          · rw [if_neg c5] at H
            cases H
        · rw [if_neg c4] at H
          cases H
      · rw [if_neg c3] at H
        cases H
    · rw [if_neg c2] at H
      rw [zp_icmp_ne_f (x := (σ 90 (σ 82 39).toNatClampNeg)) (y := 24) (t := 23) zd_107_13 rfl c2]
      rw [zs_aload_n (ls := [some (.ref 82), some (.int x1), some (.int x2), some (.int (σ 90 (σ 82 39).toNatClampNeg)), none]) zd_107_16 rfl]
      rw [zs_iconst (z := 4) zd_107_17 (by decide)]
      obtain ⟨r14, hr14, H⟩ := Option.bind_eq_some_iff.mp H
      rw [zp_callVv (st := [.int 4, .ref 82]) (as := [.ref 82, .int 4]) (rest := []) (e := 0) zd_107_18 rfl (by decide +kernel) (by decide) rfl rfl (Nat.le_of_ble_eq_true rfl) (zx_rcb_ok rfl (show 82 < 119 by decide)) (Nat.le_of_ble_eq_true rfl) rfl (by decide) (zt_M_fail hr14)]
      rw [zs_iconst (z := 0) zd_107_21 (by decide)]
      have H := Option.some.inj H
      subst H
      exact zs_ireturn zd_107_22 (by decide +kernel)
  · rw [if_neg c1] at H
    cases H
set_option maxRecDepth 20000 in
theorem zt_M_nextIfWell {a b L N : Nat} {σ : zS} {τ : zT} {r : zS} (H : zf_M_nextIfWell N σ = some r) : zx_go 3 115 0 [some (.ref 82)] [] ((119, a, b), zx_pk (zK L) 119, σ, τ, zR) = some (none, ((119, a, b), zx_pk (zK L) 119, r, τ, zR)) := by
  unfold zf_M_nextIfWell at H
  rw [zs_aload_n (ls := [some (.ref 82)]) zd_115_0 rfl]
  rw [zp_getZ (n := 119) (K := zx_pk (zK L) 119) (σ := σ) (c := 12) (k := 9) (q := 82) (v := (σ 82 9)) zd_115_1 rfl rfl rfl (by decide) rfl]
  by_cases c1 : ¬ (σ 82 9) = 0
  · rw [if_pos c1] at H
    rw [zp_if_ne_t (x := (σ 82 9)) (t := 11) zd_115_4 rfl c1]
    have H := Option.some.inj H
    subst H
    exact zs_return zd_115_11 (by decide +kernel)
  · rw [if_neg c1] at H
    rw [zp_if_ne_f (x := (σ 82 9)) (t := 11) zd_115_4 rfl c1]
    rw [zs_aload_n (ls := [some (.ref 82)]) zd_115_7 rfl]
    obtain ⟨r2, hr2, H⟩ := Option.bind_eq_some_iff.mp H
    rw [zp_callVv (st := [.ref 82]) (as := [.ref 82]) (rest := []) (e := 2) zd_115_8 rfl (by decide +kernel) (by decide) rfl rfl (Nat.le_of_ble_eq_true rfl) (zx_rcb_ok rfl (show 82 < 119 by decide)) (Nat.le_of_ble_eq_true rfl) rfl (by decide) (zt_M_next hr2)]
    have H := Option.some.inj H
    subst H
    exact zs_return zd_115_11 (by decide +kernel)
set_option maxRecDepth 20000 in
theorem zt_M_take {a b L N : Nat} {σ : zS} {τ : zT} {x1 : Int32} {r : zS} (H : zf_M_take N σ x1 = some r) : zx_go 3 101 0 [some (.ref 82), some (.int x1)] [] ((119, a, b), zx_pk (zK L) 119, σ, τ, zR) = some (none, ((119, a, b), zx_pk (zK L) 119, r, τ, zR)) := by
  unfold zf_M_take at H
  rw [zs_aload_n (ls := [some (.ref 82), some (.int x1)]) zd_101_0 rfl]
  rw [zp_getZ (n := 119) (K := zx_pk (zK L) 119) (σ := σ) (c := 12) (k := 9) (q := 82) (v := (σ 82 9)) zd_101_1 rfl rfl rfl (by decide) rfl]
  by_cases c1 : (σ 82 9) = 0
  · rw [if_pos c1] at H
    rw [zp_if_eq_t (x := (σ 82 9)) (t := 8) zd_101_4 rfl c1]
    rw [zs_aload_n (ls := [some (.ref 82), some (.int x1)]) zd_101_8 rfl]
    rw [zs_iload_n (ls := [some (.ref 82), some (.int x1)]) zd_101_9 rfl]
    obtain ⟨r2, hr2, H⟩ := Option.bind_eq_some_iff.mp H
    rw [zp_callVi (x := r2) (st := [.int x1, .ref 82]) (as := [.ref 82, .int x1]) (rest := []) (e := 0) zd_101_10 rfl (by decide +kernel) (by decide) rfl rfl (Nat.le_of_ble_eq_true rfl) (zx_rcb_ok rfl (show 82 < 119 by decide)) (Nat.le_of_ble_eq_true rfl) rfl (by decide) (zt_M_isSign hr2)]
    by_cases c3 : r2 = 0
    · rw [if_pos c3] at H
      rw [zp_if_eq_t (x := r2) (t := 23) zd_101_13 rfl c3]
      rw [zs_aload_n (ls := [some (.ref 82), some (.int x1)]) zd_101_23 rfl]
      obtain ⟨r4, hr4, H⟩ := Option.bind_eq_some_iff.mp H
      rw [zp_callVv (st := [.ref 82]) (as := [.ref 82]) (rest := []) (e := 1) zd_101_24 rfl (by decide +kernel) (by decide) rfl rfl (Nat.le_of_ble_eq_true rfl) (zx_rcb_ok rfl (show 82 < 119 by decide)) (Nat.le_of_ble_eq_true rfl) rfl (by decide) (zt_M_cannot hr4)]
      have H := Option.some.inj H
      subst H
      exact zs_return zd_101_27 (by decide +kernel)
    · rw [if_neg c3] at H
      rw [zp_if_eq_f (x := r2) (t := 23) zd_101_13 rfl c3]
      rw [zs_aload_n (ls := [some (.ref 82), some (.int x1)]) zd_101_16 rfl]
      obtain ⟨r5, hr5, H⟩ := Option.bind_eq_some_iff.mp H
      rw [zp_callVv (st := [.ref 82]) (as := [.ref 82]) (rest := []) (e := 2) zd_101_17 rfl (by decide +kernel) (by decide) rfl rfl (Nat.le_of_ble_eq_true rfl) (zx_rcb_ok rfl (show 82 < 119 by decide)) (Nat.le_of_ble_eq_true rfl) rfl (by decide) (zt_M_next hr5)]
      rw [zs_goto (t := 27) zd_101_20 rfl]
      have H := Option.some.inj H
      subst H
      exact zs_return zd_101_27 (by decide +kernel)
  · rw [if_neg c1] at H
    rw [zp_if_eq_f (x := (σ 82 9)) (t := 8) zd_101_4 rfl c1]
    have H := Option.some.inj H
    subst H
    exact zs_return zd_101_7 (by decide +kernel)
set_option maxRecDepth 20000 in
theorem zt_M_local {a b L N : Nat} {σ : zS} {τ : zT} {x1 : Int32} {r : Int32 × zS} (H : zf_M_local N σ x1 = some r) : zx_go 1 113 0 [some (.ref 82), some (.int x1), none] [] ((119, a, b), zx_pk (zK L) 119, σ, τ, zR) = some (some (.int r.1), ((119, a, b), zx_pk (zK L) 119, r.2, τ, zR)) := by
  unfold zf_M_local at H
  rw [zs_aload_n (ls := [some (.ref 82), some (.int x1), none]) zd_113_0 rfl]
  rw [zs_bipush (z := 14) zd_113_1 (by decide)]
  rw [zs_aload_n (ls := [some (.ref 82), some (.int x1), none]) zd_113_3 rfl]
  rw [zp_getI (n := 119) (K := zx_pk (zK L) 119) (σ := σ) (c := 12) (k := 18) (q := 82) (v := (σ 82 18)) zd_113_4 rfl rfl rfl (by decide) rfl]
  obtain ⟨r1, hr1, H⟩ := Option.bind_eq_some_iff.mp H
  rw [zp_callVi (x := r1) (st := [.int (σ 82 18), .int 14, .ref 82]) (as := [.ref 82, .int 14, .int (σ 82 18)]) (rest := []) (e := 0) zd_113_7 rfl (by decide +kernel) (by decide) rfl rfl (Nat.le_of_ble_eq_true rfl) (zx_rcb_ok rfl (show 82 < 119 by decide)) (Nat.le_of_ble_eq_true rfl) rfl (by decide) (zt_M_find hr1)]
  rw [zs_istore_n (x := r1) (ls' := [some (.ref 82), some (.int x1), some (.int r1)]) zd_113_10 (Nat.le_of_ble_eq_true rfl) rfl]
  rw [zs_iload_n (ls := [some (.ref 82), some (.int x1), some (.int r1)]) zd_113_11 rfl]
  rw [zs_iconst (z := (-1)) zd_113_12 (by decide)]
  by_cases c2 : r1 = (-1)
  · rw [if_pos c2] at H
    rw [zp_icmp_eq_t (x := r1) (y := (-1)) (t := 18) zd_113_13 rfl c2]
    rw [zs_iload_n (ls := [some (.ref 82), some (.int x1), some (.int r1)]) zd_113_18 rfl]
    by_cases c3 : ¬ x1 = 0
    · rw [if_pos c3] at H
      rw [zp_if_ne_t (x := x1) (t := 29) zd_113_19 rfl c3]
      rw [zs_aload_n (ls := [some (.ref 82), some (.int x1), some (.int r1)]) zd_113_29 rfl]
      rw [zp_getI (n := 119) (K := zx_pk (zK L) 119) (σ := σ) (c := 12) (k := 18) (q := 82) (v := (σ 82 18)) zd_113_30 rfl rfl rfl (by decide) rfl]
      rw [zs_iconst (z := 3) zd_113_33 (by decide)]
      by_cases c4 : ¬ (σ 82 18) = 3
      · rw [if_pos c4] at H
        rw [zp_icmp_ne_t (x := (σ 82 18)) (y := 3) (t := 44) zd_113_34 rfl c4]
        rw [zs_aload_n (ls := [some (.ref 82), some (.int x1), some (.int r1)]) zd_113_44 rfl]
        rw [zs_bipush (z := 14) zd_113_45 (by decide)]
        rw [zs_aload_n (ls := [some (.ref 82), some (.int x1), some (.int r1)]) zd_113_47 rfl]
        rw [zp_getI (n := 119) (K := zx_pk (zK L) 119) (σ := σ) (c := 12) (k := 18) (q := 82) (v := (σ 82 18)) zd_113_48 rfl rfl rfl (by decide) rfl]
        rw [zp_iadd (x := 14) (y := (σ 82 18)) (z := (14 + (σ 82 18))) zd_113_51 rfl]
        obtain ⟨r5, hr5, H⟩ := Option.bind_eq_some_iff.mp H
        rw [zp_callVv (st := [.int (14 + (σ 82 18)), .ref 82]) (as := [.ref 82, .int (14 + (σ 82 18))]) (rest := []) (e := 0) zd_113_52 rfl (by decide +kernel) (by decide) rfl rfl (Nat.le_of_ble_eq_true rfl) (zx_rcb_ok rfl (show 82 < 119 by decide)) (Nat.le_of_ble_eq_true rfl) rfl (by decide) (zt_M_call hr5)]
        rw [zs_aload_n (ls := [some (.ref 82), some (.int x1), some (.int r1)]) zd_113_55 rfl]
        rw [zs_dup (a := .ref 82) zd_113_56 rfl]
        rw [zp_getI (n := 119) (K := zx_pk (zK L) 119) (σ := r5) (c := 12) (k := 18) (q := 82) (v := (r5 82 18)) zd_113_57 rfl rfl rfl (by decide) rfl]
        rw [zs_iconst (z := 1) zd_113_60 (by decide)]
        rw [zp_iadd (x := (r5 82 18)) (y := 1) (z := ((r5 82 18) + 1)) zd_113_61 rfl]
        rw [zs_putI (n := 119) (K := zx_pk (zK L) 119) (c := 12) (k := 18) (q := 82) (x := ((r5 82 18) + 1)) zd_113_62 rfl rfl (by decide +kernel) rfl (by decide)]
        rw [zs_aload_n (ls := [some (.ref 82), some (.int x1), some (.int r1)]) zd_113_65 rfl]
        rw [zp_getI (n := 119) (K := zx_pk (zK L) 119) (σ := (zx_up r5 82 18 ((r5 82 18) + 1))) (c := 12) (k := 18) (q := 82) (v := ((r5 82 18) + 1)) zd_113_66 rfl rfl rfl (by decide) (show ((zx_up r5 82 18 ((r5 82 18) + 1)) : zS) 82 18 = ((r5 82 18) + 1) from zx_up_at)]
        rw [zs_iconst (z := 1) zd_113_69 (by decide)]
        rw [zp_isub (x := ((r5 82 18) + 1)) (y := 1) (z := (((r5 82 18) + 1) - 1)) zd_113_70 rfl]
        have H := Option.some.inj H
        subst H
        exact zs_ireturn zd_113_71 rfl
      · rw [if_neg c4] at H
        rw [zp_icmp_ne_f (x := (σ 82 18)) (y := 3) (t := 44) zd_113_34 rfl c4]
        rw [zs_aload_n (ls := [some (.ref 82), some (.int x1), some (.int r1)]) zd_113_37 rfl]
        rw [zs_iconst (z := 4) zd_113_38 (by decide)]
        obtain ⟨r6, hr6, H⟩ := Option.bind_eq_some_iff.mp H
        rw [zp_callVv (st := [.int 4, .ref 82]) (as := [.ref 82, .int 4]) (rest := []) (e := 0) zd_113_39 rfl (by decide +kernel) (by decide) rfl rfl (Nat.le_of_ble_eq_true rfl) (zx_rcb_ok rfl (show 82 < 119 by decide)) (Nat.le_of_ble_eq_true rfl) rfl (by decide) (zt_M_fail hr6)]
        rw [zs_iconst (z := 0) zd_113_42 (by decide)]
        have H := Option.some.inj H
        subst H
        exact zs_ireturn zd_113_43 (by decide +kernel)
    · rw [if_neg c3] at H
      rw [zp_if_ne_f (x := x1) (t := 29) zd_113_19 rfl c3]
      rw [zs_aload_n (ls := [some (.ref 82), some (.int x1), some (.int r1)]) zd_113_22 rfl]
      rw [zs_iconst (z := 3) zd_113_23 (by decide)]
      obtain ⟨r7, hr7, H⟩ := Option.bind_eq_some_iff.mp H
      rw [zp_callVv (st := [.int 3, .ref 82]) (as := [.ref 82, .int 3]) (rest := []) (e := 0) zd_113_24 rfl (by decide +kernel) (by decide) rfl rfl (Nat.le_of_ble_eq_true rfl) (zx_rcb_ok rfl (show 82 < 119 by decide)) (Nat.le_of_ble_eq_true rfl) rfl (by decide) (zt_M_fail hr7)]
      rw [zs_iconst (z := 0) zd_113_27 (by decide)]
      have H := Option.some.inj H
      subst H
      exact zs_ireturn zd_113_28 (by decide +kernel)
  · rw [if_neg c2] at H
    rw [zp_icmp_eq_f (x := r1) (y := (-1)) (t := 18) zd_113_13 rfl c2]
    rw [zs_iload_n (ls := [some (.ref 82), some (.int x1), some (.int r1)]) zd_113_16 rfl]
    have H := Option.some.inj H
    subst H
    exact zs_ireturn zd_113_17 rfl
set_option maxRecDepth 20000 in
theorem zt_M_value_53 {a b L N : Nat} {σ : zS} {τ : zT} {v2 : Int32} {o1 : Option Value} {r : Int32 × zS} (H : zb_M_value_53 N σ v2 = some r) : zx_go 3 114 53 [some (.ref 82), o1, some (.int v2)] [] ((119, a, b), zx_pk (zK L) 119, σ, τ, zR) = some (some (.int r.1), ((119, a, b), zx_pk (zK L) 119, r.2, τ, zR)) := by
  unfold zb_M_value_53 at H
  rw [zs_aload_n (ls := [some (.ref 82), o1, some (.int v2)]) zd_114_53 rfl]
  rw [zp_getZ (n := 119) (K := zx_pk (zK L) 119) (σ := σ) (c := 12) (k := 9) (q := 82) (v := (σ 82 9)) zd_114_54 rfl rfl rfl (by decide) rfl]
  by_cases c4 : ¬ (σ 82 9) = 0
  · rw [if_pos c4] at H
    rw [zp_if_ne_t (x := (σ 82 9)) (t := 64) zd_114_57 rfl c4]
    rw [zs_iload_n (ls := [some (.ref 82), o1, some (.int v2)]) zd_114_64 rfl]
    have H := Option.some.inj H
    subst H
    exact zs_ireturn zd_114_65 rfl
  · rw [if_neg c4] at H
    rw [zp_if_ne_f (x := (σ 82 9)) (t := 64) zd_114_57 rfl c4]
    rw [zs_aload_n (ls := [some (.ref 82), o1, some (.int v2)]) zd_114_60 rfl]
    obtain ⟨r5, hr5, H⟩ := Option.bind_eq_some_iff.mp H
    rw [zp_callVv (st := [.ref 82]) (as := [.ref 82]) (rest := []) (e := 2) zd_114_61 rfl (by decide +kernel) (by decide) rfl rfl (Nat.le_of_ble_eq_true rfl) (zx_rcb_ok rfl (show 82 < 119 by decide)) (Nat.le_of_ble_eq_true rfl) rfl (by decide) (zt_M_next hr5)]
    rw [zs_iload_n (ls := [some (.ref 82), o1, some (.int v2)]) zd_114_64 rfl]
    have H := Option.some.inj H
    subst H
    exact zs_ireturn zd_114_65 rfl
set_option maxRecDepth 20000 in
theorem zt_M_value_41 {a b L N : Nat} {σ : zS} {τ : zT} {v2 : Int32} {o1 : Option Value} {r : Int32 × zS} (H : zb_M_value_41 N σ v2 = some r) : zx_go 3 114 41 [some (.ref 82), o1, some (.int v2)] [] ((119, a, b), zx_pk (zK L) 119, σ, τ, zR) = some (some (.int r.1), ((119, a, b), zx_pk (zK L) 119, r.2, τ, zR)) := by
  unfold zb_M_value_41 at H
  rw [zs_aload_n (ls := [some (.ref 82), o1, some (.int v2)]) zd_114_41 rfl]
  rw [zp_getI (n := 119) (K := zx_pk (zK L) 119) (σ := σ) (c := 12) (k := 7) (q := 82) (v := (σ 82 7)) zd_114_42 rfl rfl rfl (by decide) rfl]
  rw [zs_iconst (z := 3) zd_114_45 (by decide)]
  by_cases c3 : (σ 82 7) = 3
  · rw [if_pos c3] at H
    rw [zp_icmp_eq_t (x := (σ 82 7)) (y := 3) (t := 53) zd_114_46 rfl c3]
    exact zt_M_value_53  H
  · rw [if_neg c3] at H
    rw [zp_icmp_eq_f (x := (σ 82 7)) (y := 3) (t := 53) zd_114_46 rfl c3]
    rw [zs_aload_n (ls := [some (.ref 82), o1, some (.int v2)]) zd_114_49 rfl]
    obtain ⟨r6, hr6, H⟩ := Option.bind_eq_some_iff.mp H
    rw [zp_callVv (st := [.ref 82]) (as := [.ref 82]) (rest := []) (e := 1) zd_114_50 rfl (by decide +kernel) (by decide) rfl rfl (Nat.le_of_ble_eq_true rfl) (zx_rcb_ok rfl (show 82 < 119 by decide)) (Nat.le_of_ble_eq_true rfl) rfl (by decide) (zt_M_cannot hr6)]
    exact zt_M_value_53  H
set_option maxRecDepth 20000 in
theorem zt_M_value {a b L N : Nat} {σ : zS} {τ : zT} {x1 : Int32} {r : Int32 × zS} (H : zf_M_value N σ x1 = some r) : zx_go 3 114 0 [some (.ref 82), some (.int x1), none] [] ((119, a, b), zx_pk (zK L) 119, σ, τ, zR) = some (some (.int r.1), ((119, a, b), zx_pk (zK L) 119, r.2, τ, zR)) := by
  unfold zf_M_value at H
  rw [zs_aload_n (ls := [some (.ref 82), some (.int x1), none]) zd_114_0 rfl]
  rw [zp_getI (n := 119) (K := zx_pk (zK L) 119) (σ := σ) (c := 12) (k := 8) (q := 82) (v := (σ 82 8)) zd_114_1 rfl rfl rfl (by decide) rfl]
  rw [zs_istore_n (x := (σ 82 8)) (ls' := [some (.ref 82), some (.int x1), some (.int (σ 82 8))]) zd_114_4 (Nat.le_of_ble_eq_true rfl) rfl]
  rw [zs_aload_n (ls := [some (.ref 82), some (.int x1), some (.int (σ 82 8))]) zd_114_5 rfl]
  rw [zp_getZ (n := 119) (K := zx_pk (zK L) 119) (σ := σ) (c := 12) (k := 9) (q := 82) (v := (σ 82 9)) zd_114_6 rfl rfl rfl (by decide) rfl]
  by_cases c1 : (σ 82 9) = 0
  · rw [if_pos c1] at H
    rw [zp_if_eq_t (x := (σ 82 9)) (t := 14) zd_114_9 rfl c1]
    rw [zs_aload_n (ls := [some (.ref 82), some (.int x1), some (.int (σ 82 8))]) zd_114_14 rfl]
    rw [zp_getI (n := 119) (K := zx_pk (zK L) 119) (σ := σ) (c := 12) (k := 7) (q := 82) (v := (σ 82 7)) zd_114_15 rfl rfl rfl (by decide) rfl]
    rw [zs_iconst (z := 2) zd_114_18 (by decide)]
    by_cases c2 : ¬ (σ 82 7) = 2
    · rw [if_pos c2] at H
      rw [zp_icmp_ne_t (x := (σ 82 7)) (y := 2) (t := 41) zd_114_19 rfl c2]
      exact zt_M_value_41  H
    · rw [if_neg c2] at H
      rw [zp_icmp_ne_f (x := (σ 82 7)) (y := 2) (t := 41) zd_114_19 rfl c2]
      rw [zs_aload_n (ls := [some (.ref 82), some (.int x1), some (.int (σ 82 8))]) zd_114_22 rfl]
      obtain ⟨r7, hr7, H⟩ := Option.bind_eq_some_iff.mp H
      rw [zp_callVi (x := r7) (st := [.ref 82]) (as := [.ref 82]) (rest := []) (e := 2) zd_114_23 rfl (by decide +kernel) (by decide) rfl rfl (Nat.le_of_ble_eq_true rfl) (zx_rcb_ok rfl (show 82 < 119 by decide)) (Nat.le_of_ble_eq_true rfl) rfl (by decide) (zt_M_isTold hr7)]
      by_cases c8 : ¬ r7 = 0
      · rw [if_pos c8] at H
        rw [zp_if_ne_t (x := r7) (t := 41) zd_114_26 rfl c8]
        exact zt_M_value_41  H
      · rw [if_neg c8] at H
        rw [zp_if_ne_f (x := r7) (t := 41) zd_114_26 rfl c8]
        rw [zs_bipush (z := 8) zd_114_29 (by decide)]
        rw [zs_aload_n (ls := [some (.ref 82), some (.int x1), some (.int (σ 82 8))]) zd_114_31 rfl]
        rw [zs_iload_n (ls := [some (.ref 82), some (.int x1), some (.int (σ 82 8))]) zd_114_32 rfl]
        obtain ⟨r9, hr9, H⟩ := Option.bind_eq_some_iff.mp H
        rw [zp_callVi (x := r9.1) (st := [.int x1, .ref 82, .int 8]) (as := [.ref 82, .int x1]) (rest := [.int 8]) (e := 1) zd_114_33 rfl (by decide +kernel) (by decide) rfl rfl (Nat.le_of_ble_eq_true rfl) (zx_rcb_ok rfl (show 82 < 119 by decide)) (Nat.le_of_ble_eq_true rfl) rfl (by decide) (zt_M_local hr9)]
        rw [zp_iadd (x := 8) (y := r9.1) (z := (8 + r9.1)) zd_114_36 rfl]
        rw [zs_istore_n (x := (8 + r9.1)) (ls' := [some (.ref 82), some (.int x1), some (.int (8 + r9.1))]) zd_114_37 (Nat.le_of_ble_eq_true rfl) rfl]
        rw [zs_goto (t := 53) zd_114_38 rfl]
        exact zt_M_value_53  H
  · rw [if_neg c1] at H
    rw [zp_if_eq_f (x := (σ 82 9)) (t := 14) zd_114_9 rfl c1]
    rw [zs_iconst (z := 0) zd_114_12 (by decide)]
    have H := Option.some.inj H
    subst H
    exact zs_ireturn zd_114_13 (by decide +kernel)
set_option maxRecDepth 20000 in
theorem zt_M_test_98 {a b L N : Nat} {σ : zS} {τ : zT} {v2 : Int32} {o1 : Option Value} {r : zS} (H : zb_M_test_98 N σ v2 = some r) : zx_go 4 117 98 [some (.ref 82), o1, some (.int v2)] [] ((119, a, b), zx_pk (zK L) 119, σ, τ, zR) = some (none, ((119, a, b), zx_pk (zK L) 119, r, τ, zR)) := by
  unfold zb_M_test_98 at H
  rw [zs_aload_n (ls := [some (.ref 82), o1, some (.int v2)]) zd_117_98 rfl]
  obtain ⟨r9, hr9, H⟩ := Option.bind_eq_some_iff.mp H
  rw [zp_callVv (st := [.ref 82]) (as := [.ref 82]) (rest := []) (e := 2) zd_117_99 rfl (by decide +kernel) (by decide) rfl rfl (Nat.le_of_ble_eq_true rfl) (zx_rcb_ok rfl (show 82 < 119 by decide)) (Nat.le_of_ble_eq_true rfl) rfl (by decide) (zt_M_next hr9)]
  rw [zs_aload_n (ls := [some (.ref 82), o1, some (.int v2)]) zd_117_102 rfl]
  rw [zs_getR (n := 119) (K := zx_pk (zK L) 119) (ρ := zR) (c := 12) (k := 35) (q := 82) (p := 100) zd_117_103 rfl rfl rfl (by decide) rfl]
  rw [zs_iload_n (ls := [some (.ref 82), o1, some (.int v2)]) zd_117_106 rfl]
  rw [zs_aload_n (ls := [some (.ref 82), o1, some (.int v2)]) zd_117_107 rfl]
  rw [zs_iconst (z := 0) zd_117_108 (by decide)]
  obtain ⟨r10, hr10, H⟩ := Option.bind_eq_some_iff.mp H
  rw [zp_callVi (x := r10.1) (st := [.int 0, .ref 82, .int v2, .ref 100]) (as := [.ref 82, .int 0]) (rest := [.int v2, .ref 100]) (e := 3) zd_117_109 rfl (by decide +kernel) (by decide) rfl rfl (Nat.le_of_ble_eq_true rfl) (zx_rcb_ok rfl (show 82 < 119 by decide)) (Nat.le_of_ble_eq_true rfl) rfl (by decide) (zt_M_value hr10)]
  by_cases c11 : 0 ≤ v2 ∧ v2 < 96
  · rw [if_pos c11] at H
    rw [zp_iastore (n := 119) (K := zx_pk (zK L) 119) (q := 100) (m := 96) (i := v2) (k := v2.toNatClampNeg) (x := r10.1) (z := r10.1) zd_117_112 rfl ⟨by decide, by decide⟩ (zJ_in c11 rfl) rfl rfl]
    have H := Option.some.inj H
    subst H
    exact zs_return zd_117_113 (by decide +kernel)
  · rw [if_neg c11] at H
    cases H
set_option maxRecDepth 20000 in
theorem zt_M_test_93 {a b L N : Nat} {σ : zS} {τ : zT} {o1 : Option Value} {o2 : Option Value} {r : zS} (H : zb_M_test_93 N σ = some r) : zx_go 4 117 93 [some (.ref 82), o1, o2] [] ((119, a, b), zx_pk (zK L) 119, σ, τ, zR) = some (none, ((119, a, b), zx_pk (zK L) 119, r, τ, zR)) := by
  unfold zb_M_test_93 at H
  rw [zs_aload_n (ls := [some (.ref 82), o1, o2]) zd_117_93 rfl]
  obtain ⟨r7, hr7, H⟩ := Option.bind_eq_some_iff.mp H
  rw [zp_callVv (st := [.ref 82]) (as := [.ref 82]) (rest := []) (e := 1) zd_117_94 rfl (by decide +kernel) (by decide) rfl rfl (Nat.le_of_ble_eq_true rfl) (zx_rcb_ok rfl (show 82 < 119 by decide)) (Nat.le_of_ble_eq_true rfl) rfl (by decide) (zt_M_cannot hr7)]
  have H := Option.some.inj H
  subst H
  exact zs_return zd_117_97 (by decide +kernel)
set_option maxRecDepth 20000 in
theorem zt_M_test {a b L N : Nat} {σ : zS} {τ : zT} {x1 : Int32} {r : zS} (H : zf_M_test N σ x1 = some r) : zx_go 4 117 0 [some (.ref 82), some (.int x1), none] [] ((119, a, b), zx_pk (zK L) 119, σ, τ, zR) = some (none, ((119, a, b), zx_pk (zK L) 119, r, τ, zR)) := by
  unfold zf_M_test at H
  rw [zs_bipush (z := 24) zd_117_0 (by decide)]
  rw [zs_aload_n (ls := [some (.ref 82), some (.int x1), none]) zd_117_2 rfl]
  rw [zp_getI (n := 119) (K := zx_pk (zK L) 119) (σ := σ) (c := 12) (k := 39) (q := 82) (v := (σ 82 39)) zd_117_3 rfl rfl rfl (by decide) rfl]
  rw [zp_imul (x := 24) (y := (σ 82 39)) (z := (24 * (σ 82 39))) zd_117_6 rfl]
  rw [zs_iload_n (ls := [some (.ref 82), some (.int x1), none]) zd_117_7 rfl]
  rw [zp_iadd (x := (24 * (σ 82 39))) (y := x1) (z := ((24 * (σ 82 39)) + x1)) zd_117_8 rfl]
  rw [zs_istore_n (x := ((24 * (σ 82 39)) + x1)) (ls' := [some (.ref 82), some (.int x1), some (.int ((24 * (σ 82 39)) + x1))]) zd_117_9 (Nat.le_of_ble_eq_true rfl) rfl]
  rw [zs_aload_n (ls := [some (.ref 82), some (.int x1), some (.int ((24 * (σ 82 39)) + x1))]) zd_117_10 rfl]
  rw [zp_getZ (n := 119) (K := zx_pk (zK L) 119) (σ := σ) (c := 12) (k := 9) (q := 82) (v := (σ 82 9)) zd_117_11 rfl rfl rfl (by decide) rfl]
  by_cases c1 : (σ 82 9) = 0
  · rw [if_pos c1] at H
    rw [zp_if_eq_t (x := (σ 82 9)) (t := 18) zd_117_14 rfl c1]
    rw [zs_aload_n (ls := [some (.ref 82), some (.int x1), some (.int ((24 * (σ 82 39)) + x1))]) zd_117_18 rfl]
    rw [zs_getR (n := 119) (K := zx_pk (zK L) 119) (ρ := zR) (c := 12) (k := 34) (q := 82) (p := 99) zd_117_19 rfl rfl rfl (by decide) rfl]
    rw [zs_iload_n (ls := [some (.ref 82), some (.int x1), some (.int ((24 * (σ 82 39)) + x1))]) zd_117_22 rfl]
    rw [zs_aload_n (ls := [some (.ref 82), some (.int x1), some (.int ((24 * (σ 82 39)) + x1))]) zd_117_23 rfl]
    rw [zs_iconst (z := 0) zd_117_24 (by decide)]
    obtain ⟨r2, hr2, H⟩ := Option.bind_eq_some_iff.mp H
    rw [zp_callVi (x := r2.1) (st := [.int 0, .ref 82, .int ((24 * (σ 82 39)) + x1), .ref 99]) (as := [.ref 82, .int 0]) (rest := [.int ((24 * (σ 82 39)) + x1), .ref 99]) (e := 3) zd_117_25 rfl (by decide +kernel) (by decide) rfl rfl (Nat.le_of_ble_eq_true rfl) (zx_rcb_ok rfl (show 82 < 119 by decide)) (Nat.le_of_ble_eq_true rfl) rfl (by decide) (zt_M_value hr2)]
    by_cases c3 : 0 ≤ ((24 * (σ 82 39)) + x1) ∧ ((24 * (σ 82 39)) + x1) < 96
    · rw [if_pos c3] at H
      rw [zp_iastore (n := 119) (K := zx_pk (zK L) 119) (q := 99) (m := 96) (i := ((24 * (σ 82 39)) + x1)) (k := ((24 * (σ 82 39)) + x1).toNatClampNeg) (x := r2.1) (z := r2.1) zd_117_28 rfl ⟨by decide, by decide⟩ (zJ_in c3 rfl) rfl rfl]
      rw [zs_aload_n (ls := [some (.ref 82), some (.int x1), some (.int ((24 * (σ 82 39)) + x1))]) zd_117_29 rfl]
      rw [zp_getZ (n := 119) (K := zx_pk (zK L) 119) (σ := (zx_up r2.2 99 ((24 * (σ 82 39)) + x1).toNatClampNeg r2.1)) (c := 12) (k := 9) (q := 82) (v := (r2.2 82 9)) zd_117_30 rfl rfl rfl (by decide) (show ((zx_up r2.2 99 ((24 * (σ 82 39)) + x1).toNatClampNeg r2.1) : zS) 82 9 = (r2.2 82 9) from ((zx_up_ne (by decide)).trans rfl))]
      by_cases c4 : (r2.2 82 9) = 0
      · rw [if_pos c4] at H
        rw [zp_if_eq_t (x := (r2.2 82 9)) (t := 37) zd_117_33 rfl c4]
        rw [zs_aload_n (ls := [some (.ref 82), some (.int x1), some (.int ((24 * (σ 82 39)) + x1))]) zd_117_37 rfl]
        rw [zs_getR (n := 119) (K := zx_pk (zK L) 119) (ρ := zR) (c := 12) (k := 36) (q := 82) (p := 101) zd_117_38 rfl rfl rfl (by decide) rfl]
        rw [zs_iload_n (ls := [some (.ref 82), some (.int x1), some (.int ((24 * (σ 82 39)) + x1))]) zd_117_41 rfl]
        rw [zs_aload_n (ls := [some (.ref 82), some (.int x1), some (.int ((24 * (σ 82 39)) + x1))]) zd_117_42 rfl]
        rw [zp_getI (n := 119) (K := zx_pk (zK L) 119) (σ := (zx_up r2.2 99 ((24 * (σ 82 39)) + x1).toNatClampNeg r2.1)) (c := 12) (k := 8) (q := 82) (v := (r2.2 82 8)) zd_117_43 rfl rfl rfl (by decide) (show ((zx_up r2.2 99 ((24 * (σ 82 39)) + x1).toNatClampNeg r2.1) : zS) 82 8 = (r2.2 82 8) from ((zx_up_ne (by decide)).trans rfl))]
        by_cases c5 : 0 ≤ ((24 * (σ 82 39)) + x1) ∧ ((24 * (σ 82 39)) + x1) < 96
        · rw [if_pos c5] at H
          rw [zp_iastore (n := 119) (K := zx_pk (zK L) 119) (q := 101) (m := 96) (i := ((24 * (σ 82 39)) + x1)) (k := ((24 * (σ 82 39)) + x1).toNatClampNeg) (x := (r2.2 82 8)) (z := (r2.2 82 8)) zd_117_46 rfl ⟨by decide, by decide⟩ (zJ_in c5 rfl) rfl rfl]
          rw [zs_aload_n (ls := [some (.ref 82), some (.int x1), some (.int ((24 * (σ 82 39)) + x1))]) zd_117_47 rfl]
          rw [zp_getI (n := 119) (K := zx_pk (zK L) 119) (σ := (zx_up (zx_up r2.2 99 ((24 * (σ 82 39)) + x1).toNatClampNeg r2.1) 101 ((24 * (σ 82 39)) + x1).toNatClampNeg (r2.2 82 8))) (c := 12) (k := 7) (q := 82) (v := (r2.2 82 7)) zd_117_48 rfl rfl rfl (by decide) (show ((zx_up (zx_up r2.2 99 ((24 * (σ 82 39)) + x1).toNatClampNeg r2.1) 101 ((24 * (σ 82 39)) + x1).toNatClampNeg (r2.2 82 8)) : zS) 82 7 = (r2.2 82 7) from ((zx_up_ne (by decide)).trans ((zx_up_ne (by decide)).trans rfl)))]
          rw [zs_iconst (z := 4) zd_117_51 (by decide)]
          by_cases c6 : ¬ (r2.2 82 7) = 4
          · rw [if_pos c6] at H
            rw [zp_icmp_ne_t (x := (r2.2 82 7)) (y := 4) (t := 93) zd_117_52 rfl c6]
            exact zt_M_test_93  H
          · rw [if_neg c6] at H
            rw [zp_icmp_ne_f (x := (r2.2 82 7)) (y := 4) (t := 93) zd_117_52 rfl c6]
            rw [zs_aload_n (ls := [some (.ref 82), some (.int x1), some (.int ((24 * (σ 82 39)) + x1))]) zd_117_55 rfl]
            rw [zp_getI (n := 119) (K := zx_pk (zK L) 119) (σ := (zx_up (zx_up r2.2 99 ((24 * (σ 82 39)) + x1).toNatClampNeg r2.1) 101 ((24 * (σ 82 39)) + x1).toNatClampNeg (r2.2 82 8))) (c := 12) (k := 8) (q := 82) (v := (r2.2 82 8)) zd_117_56 rfl rfl rfl (by decide) (show ((zx_up (zx_up r2.2 99 ((24 * (σ 82 39)) + x1).toNatClampNeg r2.1) 101 ((24 * (σ 82 39)) + x1).toNatClampNeg (r2.2 82 8)) : zS) 82 8 = (r2.2 82 8) from ((zx_up_ne (by decide)).trans ((zx_up_ne (by decide)).trans rfl)))]
            rw [zs_sipush (z := 1000) zd_117_59 (by decide)]
            by_cases c8 : (r2.2 82 8) = 1000
            · rw [if_pos c8] at H
              rw [zp_icmp_eq_t (x := (r2.2 82 8)) (y := 1000) (t := 98) zd_117_62 rfl c8]
              exact zt_M_test_98  H
            · rw [if_neg c8] at H
              rw [zp_icmp_eq_f (x := (r2.2 82 8)) (y := 1000) (t := 98) zd_117_62 rfl c8]
              rw [zs_aload_n (ls := [some (.ref 82), some (.int x1), some (.int ((24 * (σ 82 39)) + x1))]) zd_117_65 rfl]
              rw [zp_getI (n := 119) (K := zx_pk (zK L) 119) (σ := (zx_up (zx_up r2.2 99 ((24 * (σ 82 39)) + x1).toNatClampNeg r2.1) 101 ((24 * (σ 82 39)) + x1).toNatClampNeg (r2.2 82 8))) (c := 12) (k := 8) (q := 82) (v := (r2.2 82 8)) zd_117_66 rfl rfl rfl (by decide) (show ((zx_up (zx_up r2.2 99 ((24 * (σ 82 39)) + x1).toNatClampNeg r2.1) 101 ((24 * (σ 82 39)) + x1).toNatClampNeg (r2.2 82 8)) : zS) 82 8 = (r2.2 82 8) from ((zx_up_ne (by decide)).trans ((zx_up_ne (by decide)).trans rfl)))]
              rw [zs_sipush (z := 1001) zd_117_69 (by decide)]
              by_cases c12 : (r2.2 82 8) = 1001
              · rw [if_pos c12] at H
                rw [zp_icmp_eq_t (x := (r2.2 82 8)) (y := 1001) (t := 98) zd_117_72 rfl c12]
                exact zt_M_test_98  H
              · rw [if_neg c12] at H
                rw [zp_icmp_eq_f (x := (r2.2 82 8)) (y := 1001) (t := 98) zd_117_72 rfl c12]
                rw [zs_aload_n (ls := [some (.ref 82), some (.int x1), some (.int ((24 * (σ 82 39)) + x1))]) zd_117_75 rfl]
                rw [zp_getI (n := 119) (K := zx_pk (zK L) 119) (σ := (zx_up (zx_up r2.2 99 ((24 * (σ 82 39)) + x1).toNatClampNeg r2.1) 101 ((24 * (σ 82 39)) + x1).toNatClampNeg (r2.2 82 8))) (c := 12) (k := 8) (q := 82) (v := (r2.2 82 8)) zd_117_76 rfl rfl rfl (by decide) (show ((zx_up (zx_up r2.2 99 ((24 * (σ 82 39)) + x1).toNatClampNeg r2.1) 101 ((24 * (σ 82 39)) + x1).toNatClampNeg (r2.2 82 8)) : zS) 82 8 = (r2.2 82 8) from ((zx_up_ne (by decide)).trans ((zx_up_ne (by decide)).trans rfl)))]
                rw [zs_bipush (z := 60) zd_117_79 (by decide)]
                by_cases c13 : (r2.2 82 8) = 60
                · rw [if_pos c13] at H
                  rw [zp_icmp_eq_t (x := (r2.2 82 8)) (y := 60) (t := 98) zd_117_81 rfl c13]
                  exact zt_M_test_98  H
                · rw [if_neg c13] at H
                  rw [zp_icmp_eq_f (x := (r2.2 82 8)) (y := 60) (t := 98) zd_117_81 rfl c13]
                  rw [zs_aload_n (ls := [some (.ref 82), some (.int x1), some (.int ((24 * (σ 82 39)) + x1))]) zd_117_84 rfl]
                  rw [zp_getI (n := 119) (K := zx_pk (zK L) 119) (σ := (zx_up (zx_up r2.2 99 ((24 * (σ 82 39)) + x1).toNatClampNeg r2.1) 101 ((24 * (σ 82 39)) + x1).toNatClampNeg (r2.2 82 8))) (c := 12) (k := 8) (q := 82) (v := (r2.2 82 8)) zd_117_85 rfl rfl rfl (by decide) (show ((zx_up (zx_up r2.2 99 ((24 * (σ 82 39)) + x1).toNatClampNeg r2.1) 101 ((24 * (σ 82 39)) + x1).toNatClampNeg (r2.2 82 8)) : zS) 82 8 = (r2.2 82 8) from ((zx_up_ne (by decide)).trans ((zx_up_ne (by decide)).trans rfl)))]
                  rw [zs_bipush (z := 62) zd_117_88 (by decide)]
                  by_cases c14 : (r2.2 82 8) = 62
                  · rw [if_pos c14] at H
                    rw [zp_icmp_eq_t (x := (r2.2 82 8)) (y := 62) (t := 98) zd_117_90 rfl c14]
                    exact zt_M_test_98  H
                  · rw [if_neg c14] at H
                    rw [zp_icmp_eq_f (x := (r2.2 82 8)) (y := 62) (t := 98) zd_117_90 rfl c14]
                    exact zt_M_test_93  H
        · rw [if_neg c5] at H
          cases H
      · rw [if_neg c4] at H
        rw [zp_if_eq_f (x := (r2.2 82 9)) (t := 37) zd_117_33 rfl c4]
        have H := Option.some.inj H
        subst H
        exact zs_return zd_117_36 (by decide +kernel)
    · rw [if_neg c3] at H
      cases H
  · rw [if_neg c1] at H
    rw [zp_if_eq_f (x := (σ 82 9)) (t := 18) zd_117_14 rfl c1]
    have H := Option.some.inj H
    subst H
    exact zs_return zd_117_17 (by decide +kernel)
set_option maxRecDepth 20000 in
theorem zt_M_threadNamed_116 {a b L N : Nat} {σ : zS} {τ : zT} {v1 : Int32} {r : Int32 × zS} (H : zb_M_threadNamed_116 N σ v1 = some r) : zx_go 3 118 116 [some (.ref 82), some (.int v1)] [] ((119, a, b), zx_pk (zK L) 119, σ, τ, zR) = some (some (.int r.1), ((119, a, b), zx_pk (zK L) 119, r.2, τ, zR)) := by
  unfold zb_M_threadNamed_116 at H
  rw [zs_aload_n (ls := [some (.ref 82), some (.int v1)]) zd_118_116 rfl]
  obtain ⟨r7, hr7, H⟩ := Option.bind_eq_some_iff.mp H
  rw [zp_callVv (st := [.ref 82]) (as := [.ref 82]) (rest := []) (e := 2) zd_118_117 rfl (by decide +kernel) (by decide) rfl rfl (Nat.le_of_ble_eq_true rfl) (zx_rcb_ok rfl (show 82 < 119 by decide)) (Nat.le_of_ble_eq_true rfl) rfl (by decide) (zt_M_next hr7)]
  rw [zs_iload_n (ls := [some (.ref 82), some (.int v1)]) zd_118_120 rfl]
  have H := Option.some.inj H
  subst H
  exact zs_ireturn zd_118_121 rfl
set_option maxRecDepth 20000 in
theorem zt_M_threadNamed_112 {a b L N : Nat} {σ : zS} {τ : zT} {v1 : Int32} {r : Int32 × zS} (H : zb_M_threadNamed_112 N σ v1 = some r) : zx_go 3 118 112 [some (.ref 82), some (.int v1)] [] ((119, a, b), zx_pk (zK L) 119, σ, τ, zR) = some (some (.int r.1), ((119, a, b), zx_pk (zK L) 119, r.2, τ, zR)) := by
  unfold zb_M_threadNamed_112 at H
  rw [zs_iconst (z := 4) zd_118_112 (by decide)]
  rw [zs_iload_n (ls := [some (.ref 82), some (.int v1)]) zd_118_113 rfl]
  rw [zp_iadd (x := 4) (y := v1) (z := (4 + v1)) zd_118_114 rfl]
  rw [zs_istore_n (x := (4 + v1)) (ls' := [some (.ref 82), some (.int (4 + v1))]) zd_118_115 (Nat.le_of_ble_eq_true rfl) rfl]
  exact zt_M_threadNamed_116  H
set_option maxRecDepth 20000 in
theorem zt_M_threadNamed_52 {a b L N : Nat} {σ : zS} {τ : zT} {v1 : Int32} {r : Int32 × zS} (H : zb_M_threadNamed_52 N σ v1 = some r) : zx_go 3 118 52 [some (.ref 82), some (.int v1)] [] ((119, a, b), zx_pk (zK L) 119, σ, τ, zR) = some (some (.int r.1), ((119, a, b), zx_pk (zK L) 119, r.2, τ, zR)) := by
  unfold zb_M_threadNamed_52 at H
  rw [zs_iload_n (ls := [some (.ref 82), some (.int v1)]) zd_118_52 rfl]
  rw [zs_iconst (z := (-1)) zd_118_53 (by decide)]
  by_cases c6 : ¬ v1 = (-1)
  · rw [if_pos c6] at H
    rw [zp_icmp_ne_t (x := v1) (y := (-1)) (t := 116) zd_118_54 rfl c6]
    exact zt_M_threadNamed_116  H
  · rw [if_neg c6] at H
    rw [zp_icmp_ne_f (x := v1) (y := (-1)) (t := 116) zd_118_54 rfl c6]
    rw [zs_aload_n (ls := [some (.ref 82), some (.int v1)]) zd_118_57 rfl]
    rw [zs_bipush (z := 17) zd_118_58 (by decide)]
    rw [zs_aload_n (ls := [some (.ref 82), some (.int v1)]) zd_118_60 rfl]
    rw [zp_getI (n := 119) (K := zx_pk (zK L) 119) (σ := σ) (c := 12) (k := 19) (q := 82) (v := (σ 82 19)) zd_118_61 rfl rfl rfl (by decide) rfl]
    obtain ⟨r8, hr8, H⟩ := Option.bind_eq_some_iff.mp H
    rw [zp_callVi (x := r8) (st := [.int (σ 82 19), .int 17, .ref 82]) (as := [.ref 82, .int 17, .int (σ 82 19)]) (rest := []) (e := 0) zd_118_64 rfl (by decide +kernel) (by decide) rfl rfl (Nat.le_of_ble_eq_true rfl) (zx_rcb_ok rfl (show 82 < 119 by decide)) (Nat.le_of_ble_eq_true rfl) rfl (by decide) (zt_M_find hr8)]
    rw [zs_istore_n (x := r8) (ls' := [some (.ref 82), some (.int r8)]) zd_118_67 (Nat.le_of_ble_eq_true rfl) rfl]
    rw [zs_iload_n (ls := [some (.ref 82), some (.int r8)]) zd_118_68 rfl]
    rw [zs_iconst (z := (-1)) zd_118_69 (by decide)]
    by_cases c9 : ¬ r8 = (-1)
    · rw [if_pos c9] at H
      rw [zp_icmp_ne_t (x := r8) (y := (-1)) (t := 112) zd_118_70 rfl c9]
      exact zt_M_threadNamed_112  H
    · rw [if_neg c9] at H
      rw [zp_icmp_ne_f (x := r8) (y := (-1)) (t := 112) zd_118_70 rfl c9]
      rw [zs_aload_n (ls := [some (.ref 82), some (.int r8)]) zd_118_73 rfl]
      rw [zs_bipush (z := 17) zd_118_74 (by decide)]
      rw [zs_aload_n (ls := [some (.ref 82), some (.int r8)]) zd_118_76 rfl]
      rw [zp_getI (n := 119) (K := zx_pk (zK L) 119) (σ := σ) (c := 12) (k := 19) (q := 82) (v := (σ 82 19)) zd_118_77 rfl rfl rfl (by decide) rfl]
      rw [zp_iadd (x := 17) (y := (σ 82 19)) (z := (17 + (σ 82 19))) zd_118_80 rfl]
      obtain ⟨r10, hr10, H⟩ := Option.bind_eq_some_iff.mp H
      rw [zp_callVv (st := [.int (17 + (σ 82 19)), .ref 82]) (as := [.ref 82, .int (17 + (σ 82 19))]) (rest := []) (e := 0) zd_118_81 rfl (by decide +kernel) (by decide) rfl rfl (Nat.le_of_ble_eq_true rfl) (zx_rcb_ok rfl (show 82 < 119 by decide)) (Nat.le_of_ble_eq_true rfl) rfl (by decide) (zt_M_call hr10)]
      rw [zs_aload_n (ls := [some (.ref 82), some (.int r8)]) zd_118_84 rfl]
      rw [zs_getR (n := 119) (K := zx_pk (zK L) 119) (ρ := zR) (c := 12) (k := 20) (q := 82) (p := 87) zd_118_85 rfl rfl rfl (by decide) rfl]
      rw [zs_aload_n (ls := [some (.ref 82), some (.int r8)]) zd_118_88 rfl]
      rw [zp_getI (n := 119) (K := zx_pk (zK L) 119) (σ := r10) (c := 12) (k := 19) (q := 82) (v := (r10 82 19)) zd_118_89 rfl rfl rfl (by decide) rfl]
      rw [zs_aload_n (ls := [some (.ref 82), some (.int r8)]) zd_118_92 rfl]
      rw [zp_getI (n := 119) (K := zx_pk (zK L) 119) (σ := r10) (c := 12) (k := 5) (q := 82) (v := (r10 82 5)) zd_118_93 rfl rfl rfl (by decide) rfl]
      by_cases c11 : 0 ≤ (r10 82 19) ∧ (r10 82 19) < 128
      · rw [if_pos c11] at H
        rw [zp_iastore (n := 119) (K := zx_pk (zK L) 119) (q := 87) (m := 128) (i := (r10 82 19)) (k := (r10 82 19).toNatClampNeg) (x := (r10 82 5)) (z := (r10 82 5)) zd_118_96 rfl ⟨by decide, by decide⟩ (zJ_in c11 rfl) rfl rfl]
        rw [zs_aload_n (ls := [some (.ref 82), some (.int r8)]) zd_118_97 rfl]
        rw [zp_getI (n := 119) (K := zx_pk (zK L) 119) (σ := (zx_up r10 87 (r10 82 19).toNatClampNeg (r10 82 5))) (c := 12) (k := 19) (q := 82) (v := (r10 82 19)) zd_118_98 rfl rfl rfl (by decide) (show ((zx_up r10 87 (r10 82 19).toNatClampNeg (r10 82 5)) : zS) 82 19 = (r10 82 19) from ((zx_up_ne (by decide)).trans rfl))]
        rw [zs_istore_n (x := (r10 82 19)) (ls' := [some (.ref 82), some (.int (r10 82 19))]) zd_118_101 (Nat.le_of_ble_eq_true rfl) rfl]
        rw [zs_aload_n (ls := [some (.ref 82), some (.int (r10 82 19))]) zd_118_102 rfl]
        rw [zs_dup (a := .ref 82) zd_118_103 rfl]
        rw [zp_getI (n := 119) (K := zx_pk (zK L) 119) (σ := (zx_up r10 87 (r10 82 19).toNatClampNeg (r10 82 5))) (c := 12) (k := 19) (q := 82) (v := (r10 82 19)) zd_118_104 rfl rfl rfl (by decide) (show ((zx_up r10 87 (r10 82 19).toNatClampNeg (r10 82 5)) : zS) 82 19 = (r10 82 19) from ((zx_up_ne (by decide)).trans rfl))]
        rw [zs_iconst (z := 1) zd_118_107 (by decide)]
        rw [zp_iadd (x := (r10 82 19)) (y := 1) (z := ((r10 82 19) + 1)) zd_118_108 rfl]
        rw [zs_putI (n := 119) (K := zx_pk (zK L) 119) (c := 12) (k := 19) (q := 82) (x := ((r10 82 19) + 1)) zd_118_109 rfl rfl (by decide +kernel) rfl (by decide)]
        exact zt_M_threadNamed_112  H
      · rw [if_neg c11] at H
        cases H
set_option maxRecDepth 20000 in
theorem zt_M_threadNamed_46 {a b L N : Nat} {σ : zS} {τ : zT} {o1 : Option Value} {r : Int32 × zS} (H : zb_M_threadNamed_46 N σ = some r) : zx_go 3 118 46 [some (.ref 82), o1] [] ((119, a, b), zx_pk (zK L) 119, σ, τ, zR) = some (some (.int r.1), ((119, a, b), zx_pk (zK L) 119, r.2, τ, zR)) := by
  unfold zb_M_threadNamed_46 at H
  rw [zs_aload_n (ls := [some (.ref 82), o1]) zd_118_46 rfl]
  obtain ⟨r4, hr4, H⟩ := Option.bind_eq_some_iff.mp H
  rw [zp_callVv (st := [.ref 82]) (as := [.ref 82]) (rest := []) (e := 1) zd_118_47 rfl (by decide +kernel) (by decide) rfl rfl (Nat.le_of_ble_eq_true rfl) (zx_rcb_ok rfl (show 82 < 119 by decide)) (Nat.le_of_ble_eq_true rfl) rfl (by decide) (zt_M_cannot hr4)]
  rw [zs_iconst (z := 0) zd_118_50 (by decide)]
  have H := Option.some.inj H
  subst H
  exact zs_ireturn zd_118_51 (by decide +kernel)
set_option maxRecDepth 20000 in
theorem zt_M_threadNamed_25 {a b L N : Nat} {σ : zS} {τ : zT} {s0 : Int32} {o1 : Option Value} {r : Int32 × zS} (H : zb_M_threadNamed_25 N σ s0 = some r) : zx_go 3 118 25 [some (.ref 82), o1] [.int s0] ((119, a, b), zx_pk (zK L) 119, σ, τ, zR) = some (some (.int r.1), ((119, a, b), zx_pk (zK L) 119, r.2, τ, zR)) := by
  unfold zb_M_threadNamed_25 at H
  rw [zs_istore_n (x := s0) (ls' := [some (.ref 82), some (.int s0)]) zd_118_25 (Nat.le_of_ble_eq_true rfl) rfl]
  rw [zs_aload_n (ls := [some (.ref 82), some (.int s0)]) zd_118_26 rfl]
  rw [zp_getI (n := 119) (K := zx_pk (zK L) 119) (σ := σ) (c := 12) (k := 7) (q := 82) (v := (σ 82 7)) zd_118_27 rfl rfl rfl (by decide) rfl]
  rw [zs_iconst (z := 2) zd_118_30 (by decide)]
  by_cases c3 : ¬ (σ 82 7) = 2
  · rw [if_pos c3] at H
    rw [zp_icmp_ne_t (x := (σ 82 7)) (y := 2) (t := 46) zd_118_31 rfl c3]
    exact zt_M_threadNamed_46  H
  · rw [if_neg c3] at H
    rw [zp_icmp_ne_f (x := (σ 82 7)) (y := 2) (t := 46) zd_118_31 rfl c3]
    rw [zs_iload_n (ls := [some (.ref 82), some (.int s0)]) zd_118_34 rfl]
    rw [zs_iconst (z := (-1)) zd_118_35 (by decide)]
    by_cases c5 : ¬ s0 = (-1)
    · rw [if_pos c5] at H
      rw [zp_icmp_ne_t (x := s0) (y := (-1)) (t := 52) zd_118_36 rfl c5]
      exact zt_M_threadNamed_52  H
    · rw [if_neg c5] at H
      rw [zp_icmp_ne_f (x := s0) (y := (-1)) (t := 52) zd_118_36 rfl c5]
      rw [zs_aload_n (ls := [some (.ref 82), some (.int s0)]) zd_118_39 rfl]
      obtain ⟨r12, hr12, H⟩ := Option.bind_eq_some_iff.mp H
      rw [zp_callVi (x := r12) (st := [.ref 82]) (as := [.ref 82]) (rest := []) (e := 2) zd_118_40 rfl (by decide +kernel) (by decide) rfl rfl (Nat.le_of_ble_eq_true rfl) (zx_rcb_ok rfl (show 82 < 119 by decide)) (Nat.le_of_ble_eq_true rfl) rfl (by decide) (zt_M_isTold hr12)]
      by_cases c13 : r12 = 0
      · rw [if_pos c13] at H
        rw [zp_if_eq_t (x := r12) (t := 52) zd_118_43 rfl c13]
        exact zt_M_threadNamed_52  H
      · rw [if_neg c13] at H
        rw [zp_if_eq_f (x := r12) (t := 52) zd_118_43 rfl c13]
        exact zt_M_threadNamed_46  H
set_option maxRecDepth 20000 in
theorem zt_M_threadNamed {a b L N : Nat} {σ : zS} {τ : zT} {r : Int32 × zS} (H : zf_M_threadNamed N σ = some r) : zx_go 3 118 0 [some (.ref 82), none] [] ((119, a, b), zx_pk (zK L) 119, σ, τ, zR) = some (some (.int r.1), ((119, a, b), zx_pk (zK L) 119, r.2, τ, zR)) := by
  unfold zf_M_threadNamed at H
  rw [zs_aload_n (ls := [some (.ref 82), none]) zd_118_0 rfl]
  rw [zp_getZ (n := 119) (K := zx_pk (zK L) 119) (σ := σ) (c := 12) (k := 9) (q := 82) (v := (σ 82 9)) zd_118_1 rfl rfl rfl (by decide) rfl]
  by_cases c1 : (σ 82 9) = 0
  · rw [if_pos c1] at H
    rw [zp_if_eq_t (x := (σ 82 9)) (t := 9) zd_118_4 rfl c1]
    rw [zs_aload_n (ls := [some (.ref 82), none]) zd_118_9 rfl]
    rw [zp_getI (n := 119) (K := zx_pk (zK L) 119) (σ := σ) (c := 12) (k := 7) (q := 82) (v := (σ 82 7)) zd_118_10 rfl rfl rfl (by decide) rfl]
    rw [zs_iconst (z := 2) zd_118_13 (by decide)]
    by_cases c2 : ¬ (σ 82 7) = 2
    · rw [if_pos c2] at H
      rw [zp_icmp_ne_t (x := (σ 82 7)) (y := 2) (t := 24) zd_118_14 rfl c2]
      rw [zs_iconst (z := (-1)) zd_118_24 (by decide)]
      exact zt_M_threadNamed_25  H
    · rw [if_neg c2] at H
      rw [zp_icmp_ne_f (x := (σ 82 7)) (y := 2) (t := 24) zd_118_14 rfl c2]
      rw [zs_aload_n (ls := [some (.ref 82), none]) zd_118_17 rfl]
      obtain ⟨r14, hr14, H⟩ := Option.bind_eq_some_iff.mp H
      rw [zp_callVi (x := r14) (st := [.ref 82]) (as := [.ref 82]) (rest := []) (e := 1) zd_118_18 rfl (by decide +kernel) (by decide) rfl rfl (Nat.le_of_ble_eq_true rfl) (zx_rcb_ok rfl (show 82 < 119 by decide)) (Nat.le_of_ble_eq_true rfl) rfl (by decide) (zt_M_threadHere hr14)]
      rw [zs_goto (t := 25) zd_118_21 rfl]
      exact zt_M_threadNamed_25  H
  · rw [if_neg c1] at H
    rw [zp_if_eq_f (x := (σ 82 9)) (t := 9) zd_118_4 rfl c1]
    rw [zs_iconst (z := 0) zd_118_7 (by decide)]
    have H := Option.some.inj H
    subst H
    exact zs_ireturn zd_118_8 (by decide +kernel)
set_option maxRecDepth 20000 in
theorem zt_M_lockNamed_63 {a b L N : Nat} {σ : zS} {τ : zT} {v1 : Int32} {r : Int32 × zS} (H : zb_M_lockNamed_63 N σ v1 = some r) : zx_go 3 116 63 [some (.ref 82), some (.int v1)] [] ((119, a, b), zx_pk (zK L) 119, σ, τ, zR) = some (some (.int r.1), ((119, a, b), zx_pk (zK L) 119, r.2, τ, zR)) := by
  unfold zb_M_lockNamed_63 at H
  rw [zs_aload_n (ls := [some (.ref 82), some (.int v1)]) zd_116_63 rfl]
  rw [zp_getZ (n := 119) (K := zx_pk (zK L) 119) (σ := σ) (c := 12) (k := 9) (q := 82) (v := (σ 82 9)) zd_116_64 rfl rfl rfl (by decide) rfl]
  by_cases c5 : ¬ (σ 82 9) = 0
  · rw [if_pos c5] at H
    rw [zp_if_ne_t (x := (σ 82 9)) (t := 74) zd_116_67 rfl c5]
    rw [zs_iload_n (ls := [some (.ref 82), some (.int v1)]) zd_116_74 rfl]
    have H := Option.some.inj H
    subst H
    exact zs_ireturn zd_116_75 rfl
  · rw [if_neg c5] at H
    rw [zp_if_ne_f (x := (σ 82 9)) (t := 74) zd_116_67 rfl c5]
    rw [zs_aload_n (ls := [some (.ref 82), some (.int v1)]) zd_116_70 rfl]
    obtain ⟨r6, hr6, H⟩ := Option.bind_eq_some_iff.mp H
    rw [zp_callVv (st := [.ref 82]) (as := [.ref 82]) (rest := []) (e := 2) zd_116_71 rfl (by decide +kernel) (by decide) rfl rfl (Nat.le_of_ble_eq_true rfl) (zx_rcb_ok rfl (show 82 < 119 by decide)) (Nat.le_of_ble_eq_true rfl) rfl (by decide) (zt_M_next hr6)]
    rw [zs_iload_n (ls := [some (.ref 82), some (.int v1)]) zd_116_74 rfl]
    have H := Option.some.inj H
    subst H
    exact zs_ireturn zd_116_75 rfl
set_option maxRecDepth 20000 in
theorem zt_M_lockNamed_53 {a b L N : Nat} {σ : zS} {τ : zT} {v1 : Int32} {r : Int32 × zS} (H : zb_M_lockNamed_53 N σ v1 = some r) : zx_go 3 116 53 [some (.ref 82), some (.int v1)] [] ((119, a, b), zx_pk (zK L) 119, σ, τ, zR) = some (some (.int r.1), ((119, a, b), zx_pk (zK L) 119, r.2, τ, zR)) := by
  unfold zb_M_lockNamed_53 at H
  rw [zs_iload_n (ls := [some (.ref 82), some (.int v1)]) zd_116_53 rfl]
  rw [zs_iconst (z := (-1)) zd_116_54 (by decide)]
  by_cases c8 : ¬ v1 = (-1)
  · rw [if_pos c8] at H
    rw [zp_icmp_ne_t (x := v1) (y := (-1)) (t := 63) zd_116_55 rfl c8]
    exact zt_M_lockNamed_63  H
  · rw [if_neg c8] at H
    rw [zp_icmp_ne_f (x := v1) (y := (-1)) (t := 63) zd_116_55 rfl c8]
    rw [zs_aload_n (ls := [some (.ref 82), some (.int v1)]) zd_116_58 rfl]
    rw [zs_iconst (z := 3) zd_116_59 (by decide)]
    obtain ⟨r9, hr9, H⟩ := Option.bind_eq_some_iff.mp H
    rw [zp_callVv (st := [.int 3, .ref 82]) (as := [.ref 82, .int 3]) (rest := []) (e := 0) zd_116_60 rfl (by decide +kernel) (by decide) rfl rfl (Nat.le_of_ble_eq_true rfl) (zx_rcb_ok rfl (show 82 < 119 by decide)) (Nat.le_of_ble_eq_true rfl) rfl (by decide) (zt_M_fail hr9)]
    exact zt_M_lockNamed_63  H
set_option maxRecDepth 20000 in
theorem zt_M_lockNamed_46 {a b L N : Nat} {σ : zS} {τ : zT} {v1 : Int32} {r : Int32 × zS} (H : zb_M_lockNamed_46 N σ v1 = some r) : zx_go 3 116 46 [some (.ref 82), some (.int v1)] [] ((119, a, b), zx_pk (zK L) 119, σ, τ, zR) = some (some (.int r.1), ((119, a, b), zx_pk (zK L) 119, r.2, τ, zR)) := by
  unfold zb_M_lockNamed_46 at H
  rw [zs_aload_n (ls := [some (.ref 82), some (.int v1)]) zd_116_46 rfl]
  obtain ⟨r4, hr4, H⟩ := Option.bind_eq_some_iff.mp H
  rw [zp_callVv (st := [.ref 82]) (as := [.ref 82]) (rest := []) (e := 1) zd_116_47 rfl (by decide +kernel) (by decide) rfl rfl (Nat.le_of_ble_eq_true rfl) (zx_rcb_ok rfl (show 82 < 119 by decide)) (Nat.le_of_ble_eq_true rfl) rfl (by decide) (zt_M_cannot hr4)]
  rw [zs_goto (t := 63) zd_116_50 rfl]
  exact zt_M_lockNamed_63  H
set_option maxRecDepth 20000 in
theorem zt_M_lockNamed_25 {a b L N : Nat} {σ : zS} {τ : zT} {s0 : Int32} {o1 : Option Value} {r : Int32 × zS} (H : zb_M_lockNamed_25 N σ s0 = some r) : zx_go 3 116 25 [some (.ref 82), o1] [.int s0] ((119, a, b), zx_pk (zK L) 119, σ, τ, zR) = some (some (.int r.1), ((119, a, b), zx_pk (zK L) 119, r.2, τ, zR)) := by
  unfold zb_M_lockNamed_25 at H
  rw [zs_istore_n (x := s0) (ls' := [some (.ref 82), some (.int s0)]) zd_116_25 (Nat.le_of_ble_eq_true rfl) rfl]
  rw [zs_aload_n (ls := [some (.ref 82), some (.int s0)]) zd_116_26 rfl]
  rw [zp_getI (n := 119) (K := zx_pk (zK L) 119) (σ := σ) (c := 12) (k := 7) (q := 82) (v := (σ 82 7)) zd_116_27 rfl rfl rfl (by decide) rfl]
  rw [zs_iconst (z := 2) zd_116_30 (by decide)]
  by_cases c3 : ¬ (σ 82 7) = 2
  · rw [if_pos c3] at H
    rw [zp_icmp_ne_t (x := (σ 82 7)) (y := 2) (t := 46) zd_116_31 rfl c3]
    exact zt_M_lockNamed_46  H
  · rw [if_neg c3] at H
    rw [zp_icmp_ne_f (x := (σ 82 7)) (y := 2) (t := 46) zd_116_31 rfl c3]
    rw [zs_iload_n (ls := [some (.ref 82), some (.int s0)]) zd_116_34 rfl]
    rw [zs_iconst (z := (-1)) zd_116_35 (by decide)]
    by_cases c7 : ¬ s0 = (-1)
    · rw [if_pos c7] at H
      rw [zp_icmp_ne_t (x := s0) (y := (-1)) (t := 53) zd_116_36 rfl c7]
      exact zt_M_lockNamed_53  H
    · rw [if_neg c7] at H
      rw [zp_icmp_ne_f (x := s0) (y := (-1)) (t := 53) zd_116_36 rfl c7]
      rw [zs_aload_n (ls := [some (.ref 82), some (.int s0)]) zd_116_39 rfl]
      obtain ⟨r10, hr10, H⟩ := Option.bind_eq_some_iff.mp H
      rw [zp_callVi (x := r10) (st := [.ref 82]) (as := [.ref 82]) (rest := []) (e := 2) zd_116_40 rfl (by decide +kernel) (by decide) rfl rfl (Nat.le_of_ble_eq_true rfl) (zx_rcb_ok rfl (show 82 < 119 by decide)) (Nat.le_of_ble_eq_true rfl) rfl (by decide) (zt_M_isTold hr10)]
      by_cases c11 : r10 = 0
      · rw [if_pos c11] at H
        rw [zp_if_eq_t (x := r10) (t := 53) zd_116_43 rfl c11]
        exact zt_M_lockNamed_53  H
      · rw [if_neg c11] at H
        rw [zp_if_eq_f (x := r10) (t := 53) zd_116_43 rfl c11]
        exact zt_M_lockNamed_46  H
set_option maxRecDepth 20000 in
theorem zt_M_lockNamed {a b L N : Nat} {σ : zS} {τ : zT} {r : Int32 × zS} (H : zf_M_lockNamed N σ = some r) : zx_go 3 116 0 [some (.ref 82), none] [] ((119, a, b), zx_pk (zK L) 119, σ, τ, zR) = some (some (.int r.1), ((119, a, b), zx_pk (zK L) 119, r.2, τ, zR)) := by
  unfold zf_M_lockNamed at H
  rw [zs_aload_n (ls := [some (.ref 82), none]) zd_116_0 rfl]
  rw [zp_getZ (n := 119) (K := zx_pk (zK L) 119) (σ := σ) (c := 12) (k := 9) (q := 82) (v := (σ 82 9)) zd_116_1 rfl rfl rfl (by decide) rfl]
  by_cases c1 : (σ 82 9) = 0
  · rw [if_pos c1] at H
    rw [zp_if_eq_t (x := (σ 82 9)) (t := 9) zd_116_4 rfl c1]
    rw [zs_aload_n (ls := [some (.ref 82), none]) zd_116_9 rfl]
    rw [zp_getI (n := 119) (K := zx_pk (zK L) 119) (σ := σ) (c := 12) (k := 7) (q := 82) (v := (σ 82 7)) zd_116_10 rfl rfl rfl (by decide) rfl]
    rw [zs_iconst (z := 2) zd_116_13 (by decide)]
    by_cases c2 : ¬ (σ 82 7) = 2
    · rw [if_pos c2] at H
      rw [zp_icmp_ne_t (x := (σ 82 7)) (y := 2) (t := 24) zd_116_14 rfl c2]
      rw [zs_iconst (z := (-1)) zd_116_24 (by decide)]
      exact zt_M_lockNamed_25  H
    · rw [if_neg c2] at H
      rw [zp_icmp_ne_f (x := (σ 82 7)) (y := 2) (t := 24) zd_116_14 rfl c2]
      rw [zs_aload_n (ls := [some (.ref 82), none]) zd_116_17 rfl]
      obtain ⟨r12, hr12, H⟩ := Option.bind_eq_some_iff.mp H
      rw [zp_callVi (x := r12) (st := [.ref 82]) (as := [.ref 82]) (rest := []) (e := 1) zd_116_18 rfl (by decide +kernel) (by decide) rfl rfl (Nat.le_of_ble_eq_true rfl) (zx_rcb_ok rfl (show 82 < 119 by decide)) (Nat.le_of_ble_eq_true rfl) rfl (by decide) (zt_M_lockHere hr12)]
      rw [zs_goto (t := 25) zd_116_21 rfl]
      exact zt_M_lockNamed_25  H
  · rw [if_neg c1] at H
    rw [zp_if_eq_f (x := (σ 82 9)) (t := 9) zd_116_4 rfl c1]
    rw [zs_iconst (z := 0) zd_116_7 (by decide)]
    have H := Option.some.inj H
    subst H
    exact zs_ireturn zd_116_8 (by decide +kernel)
set_option maxRecDepth 20000 in
theorem zt_M_assign_230 {a b L N : Nat} {σ : zS} {τ : zT} {o1 : Option Value} {o2 : Option Value} {o3 : Option Value} {o4 : Option Value} {r : zS} (H : zb_M_assign_230 N σ = some r) : zx_go 4 112 230 [some (.ref 82), o1, o2, o3, o4] [] ((119, a, b), zx_pk (zK L) 119, σ, τ, zR) = some (none, ((119, a, b), zx_pk (zK L) 119, r, τ, zR)) := by
  unfold zb_M_assign_230 at H
  rw [zs_aload_n (ls := [some (.ref 82), o1, o2, o3, o4]) zd_112_230 rfl]
  rw [zs_bipush (z := 59) zd_112_231 (by decide)]
  obtain ⟨r17, hr17, H⟩ := Option.bind_eq_some_iff.mp H
  rw [zp_callVv (st := [.int 59, .ref 82]) (as := [.ref 82, .int 59]) (rest := []) (e := 3) zd_112_233 rfl (by decide +kernel) (by decide) rfl rfl (Nat.le_of_ble_eq_true rfl) (zx_rcb_ok rfl (show 82 < 119 by decide)) (Nat.le_of_ble_eq_true rfl) rfl (by decide) (zt_M_take hr17)]
  have H := Option.some.inj H
  subst H
  exact zs_return zd_112_236 (by decide +kernel)
set_option maxRecDepth 20000 in
theorem zt_M_assign_203 {a b L N : Nat} {σ : zS} {τ : zT} {v4 : Int32} {o1 : Option Value} {o2 : Option Value} {o3 : Option Value} {r : zS} (H : zb_M_assign_203 N σ v4 = some r) : zx_go 4 112 203 [some (.ref 82), o1, o2, o3, some (.int v4)] [] ((119, a, b), zx_pk (zK L) 119, σ, τ, zR) = some (none, ((119, a, b), zx_pk (zK L) 119, r, τ, zR)) := by
  unfold zb_M_assign_203 at H
  rw [zs_aload_n (ls := [some (.ref 82), o1, o2, o3, some (.int v4)]) zd_112_203 rfl]
  rw [zs_getR (n := 119) (K := zx_pk (zK L) 119) (ρ := zR) (c := 12) (k := 36) (q := 82) (p := 101) zd_112_204 rfl rfl rfl (by decide) rfl]
  rw [zs_iload (ls := [some (.ref 82), o1, o2, o3, some (.int v4)]) zd_112_207 rfl]
  rw [zs_aload_n (ls := [some (.ref 82), o1, o2, o3, some (.int v4)]) zd_112_209 rfl]
  rw [zp_getI (n := 119) (K := zx_pk (zK L) 119) (σ := σ) (c := 12) (k := 8) (q := 82) (v := (σ 82 8)) zd_112_210 rfl rfl rfl (by decide) rfl]
  by_cases c21 : 0 ≤ v4 ∧ v4 < 96
  · rw [if_pos c21] at H
    rw [zp_iastore (n := 119) (K := zx_pk (zK L) 119) (q := 101) (m := 96) (i := v4) (k := v4.toNatClampNeg) (x := (σ 82 8)) (z := (σ 82 8)) zd_112_213 rfl ⟨by decide, by decide⟩ (zJ_in c21 rfl) rfl rfl]
    rw [zs_aload_n (ls := [some (.ref 82), o1, o2, o3, some (.int v4)]) zd_112_214 rfl]
    obtain ⟨r22, hr22, H⟩ := Option.bind_eq_some_iff.mp H
    rw [zp_callVv (st := [.ref 82]) (as := [.ref 82]) (rest := []) (e := 2) zd_112_215 rfl (by decide +kernel) (by decide) rfl rfl (Nat.le_of_ble_eq_true rfl) (zx_rcb_ok rfl (show 82 < 119 by decide)) (Nat.le_of_ble_eq_true rfl) rfl (by decide) (zt_M_next hr22)]
    rw [zs_aload_n (ls := [some (.ref 82), o1, o2, o3, some (.int v4)]) zd_112_218 rfl]
    rw [zs_getR (n := 119) (K := zx_pk (zK L) 119) (ρ := zR) (c := 12) (k := 35) (q := 82) (p := 100) zd_112_219 rfl rfl rfl (by decide) rfl]
    rw [zs_iload (ls := [some (.ref 82), o1, o2, o3, some (.int v4)]) zd_112_222 rfl]
    rw [zs_aload_n (ls := [some (.ref 82), o1, o2, o3, some (.int v4)]) zd_112_224 rfl]
    rw [zs_iconst (z := 1) zd_112_225 (by decide)]
    obtain ⟨r23, hr23, H⟩ := Option.bind_eq_some_iff.mp H
    rw [zp_callVi (x := r23.1) (st := [.int 1, .ref 82, .int v4, .ref 100]) (as := [.ref 82, .int 1]) (rest := [.int v4, .ref 100]) (e := 3) zd_112_226 rfl (by decide +kernel) (by decide) rfl rfl (Nat.le_of_ble_eq_true rfl) (zx_rcb_ok rfl (show 82 < 119 by decide)) (Nat.le_of_ble_eq_true rfl) rfl (by decide) (zt_M_value hr23)]
    by_cases c24 : 0 ≤ v4 ∧ v4 < 96
    · rw [if_pos c24] at H
      rw [zp_iastore (n := 119) (K := zx_pk (zK L) 119) (q := 100) (m := 96) (i := v4) (k := v4.toNatClampNeg) (x := r23.1) (z := r23.1) zd_112_229 rfl ⟨by decide, by decide⟩ (zJ_in c24 rfl) rfl rfl]
      exact zt_M_assign_230  H
    · rw [if_neg c24] at H
      cases H
  · rw [if_neg c21] at H
    cases H
set_option maxRecDepth 20000 in
theorem zt_M_assign_161 {a b L N : Nat} {σ : zS} {τ : zT} {v1 : Int32} {v4 : Int32} {o2 : Option Value} {o3 : Option Value} {r : zS} (H : zb_M_assign_161 N σ v1 v4 = some r) : zx_go 4 112 161 [some (.ref 82), some (.int v1), o2, o3, some (.int v4)] [] ((119, a, b), zx_pk (zK L) 119, σ, τ, zR) = some (none, ((119, a, b), zx_pk (zK L) 119, r, τ, zR)) := by
  unfold zb_M_assign_161 at H
  rw [zs_aload_n (ls := [some (.ref 82), some (.int v1), o2, o3, some (.int v4)]) zd_112_161 rfl]
  rw [zs_getR (n := 119) (K := zx_pk (zK L) 119) (ρ := zR) (c := 12) (k := 34) (q := 82) (p := 99) zd_112_162 rfl rfl rfl (by decide) rfl]
  rw [zs_iload (ls := [some (.ref 82), some (.int v1), o2, o3, some (.int v4)]) zd_112_165 rfl]
  rw [zs_aload_n (ls := [some (.ref 82), some (.int v1), o2, o3, some (.int v4)]) zd_112_167 rfl]
  rw [zs_iconst (z := 1) zd_112_168 (by decide)]
  obtain ⟨r14, hr14, H⟩ := Option.bind_eq_some_iff.mp H
  rw [zp_callVi (x := r14.1) (st := [.int 1, .ref 82, .int v4, .ref 99]) (as := [.ref 82, .int 1]) (rest := [.int v4, .ref 99]) (e := 3) zd_112_169 rfl (by decide +kernel) (by decide) rfl rfl (Nat.le_of_ble_eq_true rfl) (zx_rcb_ok rfl (show 82 < 119 by decide)) (Nat.le_of_ble_eq_true rfl) rfl (by decide) (zt_M_value hr14)]
  by_cases c15 : 0 ≤ v4 ∧ v4 < 96
  · rw [if_pos c15] at H
    rw [zp_iastore (n := 119) (K := zx_pk (zK L) 119) (q := 99) (m := 96) (i := v4) (k := v4.toNatClampNeg) (x := r14.1) (z := r14.1) zd_112_172 rfl ⟨by decide, by decide⟩ (zJ_in c15 rfl) rfl rfl]
    rw [zs_iload_n (ls := [some (.ref 82), some (.int v1), o2, o3, some (.int v4)]) zd_112_173 rfl]
    rw [zs_iconst (z := (-1)) zd_112_174 (by decide)]
    by_cases c16 : ¬ v1 = (-1)
    · rw [if_pos c16] at H
      rw [zp_icmp_ne_t (x := v1) (y := (-1)) (t := 230) zd_112_175 rfl c16]
      exact zt_M_assign_230  H
    · rw [if_neg c16] at H
      rw [zp_icmp_ne_f (x := v1) (y := (-1)) (t := 230) zd_112_175 rfl c16]
      rw [zs_aload_n (ls := [some (.ref 82), some (.int v1), o2, o3, some (.int v4)]) zd_112_178 rfl]
      rw [zp_getZ (n := 119) (K := zx_pk (zK L) 119) (σ := (zx_up r14.2 99 v4.toNatClampNeg r14.1)) (c := 12) (k := 9) (q := 82) (v := (r14.2 82 9)) zd_112_179 rfl rfl rfl (by decide) (show ((zx_up r14.2 99 v4.toNatClampNeg r14.1) : zS) 82 9 = (r14.2 82 9) from ((zx_up_ne (by decide)).trans rfl))]
      by_cases c18 : ¬ (r14.2 82 9) = 0
      · rw [if_pos c18] at H
        rw [zp_if_ne_t (x := (r14.2 82 9)) (t := 230) zd_112_182 rfl c18]
        exact zt_M_assign_230  H
      · rw [if_neg c18] at H
        rw [zp_if_ne_f (x := (r14.2 82 9)) (t := 230) zd_112_182 rfl c18]
        rw [zs_aload_n (ls := [some (.ref 82), some (.int v1), o2, o3, some (.int v4)]) zd_112_185 rfl]
        rw [zs_bipush (z := 43) zd_112_186 (by decide)]
        obtain ⟨r19, hr19, H⟩ := Option.bind_eq_some_iff.mp H
        rw [zp_callVi (x := r19) (st := [.int 43, .ref 82]) (as := [.ref 82, .int 43]) (rest := []) (e := 0) zd_112_188 rfl (by decide +kernel) (by decide) rfl rfl (Nat.le_of_ble_eq_true rfl) (zx_rcb_ok rfl (show 82 < 119 by decide)) (Nat.le_of_ble_eq_true rfl) rfl (by decide) (zt_M_isSign hr19)]
        by_cases c20 : ¬ r19 = 0
        · rw [if_pos c20] at H
          rw [zp_if_ne_t (x := r19) (t := 203) zd_112_191 rfl c20]
          exact zt_M_assign_203  H
        · rw [if_neg c20] at H
          rw [zp_if_ne_f (x := r19) (t := 203) zd_112_191 rfl c20]
          rw [zs_aload_n (ls := [some (.ref 82), some (.int v1), o2, o3, some (.int v4)]) zd_112_194 rfl]
          rw [zs_bipush (z := 45) zd_112_195 (by decide)]
          obtain ⟨r25, hr25, H⟩ := Option.bind_eq_some_iff.mp H
          rw [zp_callVi (x := r25) (st := [.int 45, .ref 82]) (as := [.ref 82, .int 45]) (rest := []) (e := 0) zd_112_197 rfl (by decide +kernel) (by decide) rfl rfl (Nat.le_of_ble_eq_true rfl) (zx_rcb_ok rfl (show 82 < 119 by decide)) (Nat.le_of_ble_eq_true rfl) rfl (by decide) (zt_M_isSign hr25)]
          by_cases c26 : r25 = 0
          · rw [if_pos c26] at H
            rw [zp_if_eq_t (x := r25) (t := 230) zd_112_200 rfl c26]
            exact zt_M_assign_230  H
          · rw [if_neg c26] at H
            rw [zp_if_eq_f (x := r25) (t := 230) zd_112_200 rfl c26]
            exact zt_M_assign_203  H
  · rw [if_neg c15] at H
    cases H
set_option maxRecDepth 20000 in
theorem zt_M_assign_56 {a b L N : Nat} {σ : zS} {τ : zT} {v1 : Int32} {v2 : Int32} {s0 : Int32} {o3 : Option Value} {o4 : Option Value} {r : zS} (H : zb_M_assign_56 N σ v1 v2 s0 = some r) : zx_go 4 112 56 [some (.ref 82), some (.int v1), some (.int v2), o3, o4] [.int s0, .ref 82] ((119, a, b), zx_pk (zK L) 119, σ, τ, zR) = some (none, ((119, a, b), zx_pk (zK L) 119, r, τ, zR)) := by
  unfold zb_M_assign_56 at H
  rw [zs_iload_n (ls := [some (.ref 82), some (.int v1), some (.int v2), o3, o4]) zd_112_56 rfl]
  obtain ⟨r6, hr6, H⟩ := Option.bind_eq_some_iff.mp H
  rw [zp_callVi (x := r6.1) (st := [.int v1, .int s0, .ref 82]) (as := [.ref 82, .int s0, .int v1]) (rest := []) (e := 1) zd_112_57 rfl (by decide +kernel) (by decide) rfl rfl (Nat.le_of_ble_eq_true rfl) (zx_rcb_ok rfl (show 82 < 119 by decide)) (Nat.le_of_ble_eq_true rfl) rfl (by decide) (zt_M_addStep hr6)]
  rw [zs_istore_n (x := r6.1) (ls' := [some (.ref 82), some (.int v1), some (.int v2), some (.int r6.1), o4]) zd_112_60 (Nat.le_of_ble_eq_true rfl) rfl]
  rw [zs_aload_n (ls := [some (.ref 82), some (.int v1), some (.int v2), some (.int r6.1), o4]) zd_112_61 rfl]
  rw [zp_getZ (n := 119) (K := zx_pk (zK L) 119) (σ := r6.2) (c := 12) (k := 9) (q := 82) (v := (r6.2 82 9)) zd_112_62 rfl rfl rfl (by decide) rfl]
  by_cases c7 : (r6.2 82 9) = 0
  · rw [if_pos c7] at H
    rw [zp_if_eq_t (x := (r6.2 82 9)) (t := 69) zd_112_65 rfl c7]
    rw [zs_bipush (z := 24) zd_112_69 (by decide)]
    rw [zs_aload_n (ls := [some (.ref 82), some (.int v1), some (.int v2), some (.int r6.1), o4]) zd_112_71 rfl]
    rw [zp_getI (n := 119) (K := zx_pk (zK L) 119) (σ := r6.2) (c := 12) (k := 39) (q := 82) (v := (r6.2 82 39)) zd_112_72 rfl rfl rfl (by decide) rfl]
    rw [zp_imul (x := 24) (y := (r6.2 82 39)) (z := (24 * (r6.2 82 39))) zd_112_75 rfl]
    rw [zs_iload_n (ls := [some (.ref 82), some (.int v1), some (.int v2), some (.int r6.1), o4]) zd_112_76 rfl]
    rw [zp_iadd (x := (24 * (r6.2 82 39))) (y := r6.1) (z := ((24 * (r6.2 82 39)) + r6.1)) zd_112_77 rfl]
    rw [zs_istore (x := ((24 * (r6.2 82 39)) + r6.1)) (ls' := [some (.ref 82), some (.int v1), some (.int v2), some (.int r6.1), some (.int ((24 * (r6.2 82 39)) + r6.1))]) zd_112_78 (Nat.le_of_ble_eq_true rfl) rfl]
    rw [zs_aload_n (ls := [some (.ref 82), some (.int v1), some (.int v2), some (.int r6.1), some (.int ((24 * (r6.2 82 39)) + r6.1))]) zd_112_80 rfl]
    obtain ⟨r8, hr8, H⟩ := Option.bind_eq_some_iff.mp H
    rw [zp_callVv (st := [.ref 82]) (as := [.ref 82]) (rest := []) (e := 2) zd_112_81 rfl (by decide +kernel) (by decide) rfl rfl (Nat.le_of_ble_eq_true rfl) (zx_rcb_ok rfl (show 82 < 119 by decide)) (Nat.le_of_ble_eq_true rfl) rfl (by decide) (zt_M_next hr8)]
    rw [zs_aload_n (ls := [some (.ref 82), some (.int v1), some (.int v2), some (.int r6.1), some (.int ((24 * (r6.2 82 39)) + r6.1))]) zd_112_84 rfl]
    rw [zs_bipush (z := 61) zd_112_85 (by decide)]
    obtain ⟨r9, hr9, H⟩ := Option.bind_eq_some_iff.mp H
    rw [zp_callVv (st := [.int 61, .ref 82]) (as := [.ref 82, .int 61]) (rest := []) (e := 3) zd_112_87 rfl (by decide +kernel) (by decide) rfl rfl (Nat.le_of_ble_eq_true rfl) (zx_rcb_ok rfl (show 82 < 119 by decide)) (Nat.le_of_ble_eq_true rfl) rfl (by decide) (zt_M_take hr9)]
    rw [zs_aload_n (ls := [some (.ref 82), some (.int v1), some (.int v2), some (.int r6.1), some (.int ((24 * (r6.2 82 39)) + r6.1))]) zd_112_90 rfl]
    rw [zp_getZ (n := 119) (K := zx_pk (zK L) 119) (σ := r9) (c := 12) (k := 9) (q := 82) (v := (r9 82 9)) zd_112_91 rfl rfl rfl (by decide) rfl]
    by_cases c10 : (r9 82 9) = 0
    · rw [if_pos c10] at H
      rw [zp_if_eq_t (x := (r9 82 9)) (t := 98) zd_112_94 rfl c10]
      rw [zs_aload_n (ls := [some (.ref 82), some (.int v1), some (.int v2), some (.int r6.1), some (.int ((24 * (r6.2 82 39)) + r6.1))]) zd_112_98 rfl]
      rw [zs_getR (n := 119) (K := zx_pk (zK L) 119) (ρ := zR) (c := 12) (k := 33) (q := 82) (p := 98) zd_112_99 rfl rfl rfl (by decide) rfl]
      rw [zs_iload (ls := [some (.ref 82), some (.int v1), some (.int v2), some (.int r6.1), some (.int ((24 * (r6.2 82 39)) + r6.1))]) zd_112_102 rfl]
      rw [zs_iload_n (ls := [some (.ref 82), some (.int v1), some (.int v2), some (.int r6.1), some (.int ((24 * (r6.2 82 39)) + r6.1))]) zd_112_104 rfl]
      by_cases c11 : 0 ≤ ((24 * (r6.2 82 39)) + r6.1) ∧ ((24 * (r6.2 82 39)) + r6.1) < 96
      · rw [if_pos c11] at H
        rw [zp_iastore (n := 119) (K := zx_pk (zK L) 119) (q := 98) (m := 96) (i := ((24 * (r6.2 82 39)) + r6.1)) (k := ((24 * (r6.2 82 39)) + r6.1).toNatClampNeg) (x := v2) (z := v2) zd_112_105 rfl ⟨by decide, by decide⟩ (zJ_in c11 rfl) rfl rfl]
        rw [zs_aload_n (ls := [some (.ref 82), some (.int v1), some (.int v2), some (.int r6.1), some (.int ((24 * (r6.2 82 39)) + r6.1))]) zd_112_106 rfl]
        rw [zs_getR (n := 119) (K := zx_pk (zK L) 119) (ρ := zR) (c := 12) (k := 36) (q := 82) (p := 101) zd_112_107 rfl rfl rfl (by decide) rfl]
        rw [zs_iload (ls := [some (.ref 82), some (.int v1), some (.int v2), some (.int r6.1), some (.int ((24 * (r6.2 82 39)) + r6.1))]) zd_112_110 rfl]
        rw [zs_iconst (z := 0) zd_112_112 (by decide)]
        by_cases c12 : 0 ≤ ((24 * (r6.2 82 39)) + r6.1) ∧ ((24 * (r6.2 82 39)) + r6.1) < 96
        · rw [if_pos c12] at H
          rw [zp_iastore (n := 119) (K := zx_pk (zK L) 119) (q := 101) (m := 96) (i := ((24 * (r6.2 82 39)) + r6.1)) (k := ((24 * (r6.2 82 39)) + r6.1).toNatClampNeg) (x := 0) (z := 0) zd_112_113 rfl ⟨by decide, by decide⟩ (zJ_in c12 rfl) rfl rfl]
          rw [zs_iload_n (ls := [some (.ref 82), some (.int v1), some (.int v2), some (.int r6.1), some (.int ((24 * (r6.2 82 39)) + r6.1))]) zd_112_114 rfl]
          rw [zs_iconst (z := (-1)) zd_112_115 (by decide)]
          by_cases c13 : ¬ v1 = (-1)
          · rw [if_pos c13] at H
            rw [zp_icmp_ne_t (x := v1) (y := (-1)) (t := 161) zd_112_116 rfl c13]
            exact zt_M_assign_161  H
          · rw [if_neg c13] at H
            rw [zp_icmp_ne_f (x := v1) (y := (-1)) (t := 161) zd_112_116 rfl c13]
            rw [zs_aload_n (ls := [some (.ref 82), some (.int v1), some (.int v2), some (.int r6.1), some (.int ((24 * (r6.2 82 39)) + r6.1))]) zd_112_119 rfl]
            rw [zp_getI (n := 119) (K := zx_pk (zK L) 119) (σ := (zx_up (zx_up r9 98 ((24 * (r6.2 82 39)) + r6.1).toNatClampNeg v2) 101 ((24 * (r6.2 82 39)) + r6.1).toNatClampNeg 0)) (c := 12) (k := 7) (q := 82) (v := (r9 82 7)) zd_112_120 rfl rfl rfl (by decide) (show ((zx_up (zx_up r9 98 ((24 * (r6.2 82 39)) + r6.1).toNatClampNeg v2) 101 ((24 * (r6.2 82 39)) + r6.1).toNatClampNeg 0) : zS) 82 7 = (r9 82 7) from ((zx_up_ne (by decide)).trans ((zx_up_ne (by decide)).trans rfl)))]
            rw [zs_iconst (z := 2) zd_112_123 (by decide)]
            by_cases c27 : ¬ (r9 82 7) = 2
            · rw [if_pos c27] at H
              rw [zp_icmp_ne_t (x := (r9 82 7)) (y := 2) (t := 161) zd_112_124 rfl c27]
              exact zt_M_assign_161  H
            · rw [if_neg c27] at H
              rw [zp_icmp_ne_f (x := (r9 82 7)) (y := 2) (t := 161) zd_112_124 rfl c27]
              rw [zs_aload_n (ls := [some (.ref 82), some (.int v1), some (.int v2), some (.int r6.1), some (.int ((24 * (r6.2 82 39)) + r6.1))]) zd_112_127 rfl]
              obtain ⟨r28, hr28, H⟩ := Option.bind_eq_some_iff.mp H
              rw [zp_callVi (x := r28) (st := [.ref 82]) (as := [.ref 82]) (rest := []) (e := 1) zd_112_128 rfl (by decide +kernel) (by decide) rfl rfl (Nat.le_of_ble_eq_true rfl) (zx_rcb_ok rfl (show 82 < 119 by decide)) (Nat.le_of_ble_eq_true rfl) rfl (by decide) (zt_M_fieldHere hr28)]
              rw [zs_iconst (z := (-1)) zd_112_131 (by decide)]
              by_cases c29 : r28 = (-1)
              · rw [if_pos c29] at H
                rw [zp_icmp_eq_t (x := r28) (y := (-1)) (t := 161) zd_112_132 rfl c29]
                exact zt_M_assign_161  H
              · rw [if_neg c29] at H
                rw [zp_icmp_eq_f (x := r28) (y := (-1)) (t := 161) zd_112_132 rfl c29]
                rw [zs_aload_n (ls := [some (.ref 82), some (.int v1), some (.int v2), some (.int r6.1), some (.int ((24 * (r6.2 82 39)) + r6.1))]) zd_112_135 rfl]
                rw [zs_getR (n := 119) (K := zx_pk (zK L) 119) (ρ := zR) (c := 12) (k := 27) (q := 82) (p := 92) zd_112_136 rfl rfl rfl (by decide) rfl]
                rw [zs_iload (ls := [some (.ref 82), some (.int v1), some (.int v2), some (.int r6.1), some (.int ((24 * (r6.2 82 39)) + r6.1))]) zd_112_139 rfl]
                rw [zs_iconst (z := 0) zd_112_141 (by decide)]
                by_cases c30 : 0 ≤ ((24 * (r6.2 82 39)) + r6.1) ∧ ((24 * (r6.2 82 39)) + r6.1) < 96
                · rw [if_pos c30] at H
                  rw [zp_iastore (n := 119) (K := zx_pk (zK L) 119) (q := 92) (m := 96) (i := ((24 * (r6.2 82 39)) + r6.1)) (k := ((24 * (r6.2 82 39)) + r6.1).toNatClampNeg) (x := 0) (z := 0) zd_112_142 rfl ⟨by decide, by decide⟩ (zJ_in c30 rfl) rfl rfl]
                  rw [zs_aload_n (ls := [some (.ref 82), some (.int v1), some (.int v2), some (.int r6.1), some (.int ((24 * (r6.2 82 39)) + r6.1))]) zd_112_143 rfl]
                  rw [zs_getR (n := 119) (K := zx_pk (zK L) 119) (ρ := zR) (c := 12) (k := 28) (q := 82) (p := 93) zd_112_144 rfl rfl rfl (by decide) rfl]
                  rw [zs_iload (ls := [some (.ref 82), some (.int v1), some (.int v2), some (.int r6.1), some (.int ((24 * (r6.2 82 39)) + r6.1))]) zd_112_147 rfl]
                  rw [zs_aload_n (ls := [some (.ref 82), some (.int v1), some (.int v2), some (.int r6.1), some (.int ((24 * (r6.2 82 39)) + r6.1))]) zd_112_149 rfl]
                  obtain ⟨r31, hr31, H⟩ := Option.bind_eq_some_iff.mp H
                  rw [zp_callVi (x := r31) (st := [.ref 82, .int ((24 * (r6.2 82 39)) + r6.1), .ref 93]) (as := [.ref 82]) (rest := [.int ((24 * (r6.2 82 39)) + r6.1), .ref 93]) (e := 1) zd_112_150 rfl (by decide +kernel) (by decide) rfl rfl (Nat.le_of_ble_eq_true rfl) (zx_rcb_ok rfl (show 82 < 119 by decide)) (Nat.le_of_ble_eq_true rfl) rfl (by decide) (zt_M_fieldHere hr31)]
                  by_cases c32 : 0 ≤ ((24 * (r6.2 82 39)) + r6.1) ∧ ((24 * (r6.2 82 39)) + r6.1) < 96
                  · rw [if_pos c32] at H
                    rw [zp_iastore (n := 119) (K := zx_pk (zK L) 119) (q := 93) (m := 96) (i := ((24 * (r6.2 82 39)) + r6.1)) (k := ((24 * (r6.2 82 39)) + r6.1).toNatClampNeg) (x := r31) (z := r31) zd_112_153 rfl ⟨by decide, by decide⟩ (zJ_in c32 rfl) rfl rfl]
                    rw [zs_aload_n (ls := [some (.ref 82), some (.int v1), some (.int v2), some (.int r6.1), some (.int ((24 * (r6.2 82 39)) + r6.1))]) zd_112_154 rfl]
                    obtain ⟨r33, hr33, H⟩ := Option.bind_eq_some_iff.mp H
                    rw [zp_callVv (st := [.ref 82]) (as := [.ref 82]) (rest := []) (e := 2) zd_112_155 rfl (by decide +kernel) (by decide) rfl rfl (Nat.le_of_ble_eq_true rfl) (zx_rcb_ok rfl (show 82 < 119 by decide)) (Nat.le_of_ble_eq_true rfl) rfl (by decide) (zt_M_next hr33)]
                    rw [zs_goto (t := 230) zd_112_158 rfl]
                    exact zt_M_assign_230  H
                  · rw [if_neg c32] at H
                    cases H
                · rw [if_neg c30] at H
                  cases H
        · rw [if_neg c12] at H
          cases H
      · rw [if_neg c11] at H
        cases H
    · rw [if_neg c10] at H
      rw [zp_if_eq_f (x := (r9 82 9)) (t := 98) zd_112_94 rfl c10]
      have H := Option.some.inj H
      subst H
      exact zs_return zd_112_97 (by decide +kernel)
  · rw [if_neg c7] at H
    rw [zp_if_eq_f (x := (r6.2 82 9)) (t := 69) zd_112_65 rfl c7]
    have H := Option.some.inj H
    subst H
    exact zs_return zd_112_68 (by decide +kernel)
