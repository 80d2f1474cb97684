/-! THE CONSTRUCTORS, from the law's entry to its loop (by program) -/
def zKL : List zx_K := [.inl 13, .inr (.long, 15), .inl 11, .inr (.byte, 1500), .inl 6, .inr (.int, 4), .inr (.int, 4), .inr (.int, 97), .inr (.int, 97), .inr (.int, 97), .inr (.int, 97), .inr (.int, 97), .inr (.int, 97), .inr (.int, 97), .inr (.int, 97), .inr (.int, 97), .inr (.int, 97), .inl 7, .inl 3, .inr (.long, 14), .inr (.int, 14), .inr (.int, 14), .inr (.long, 3), .inr (.long, 96), .inr (.int, 96), .inl 9, .inr (.int, 1501), .inr (.int, 1501), .inr (.long, 1501), .inl 10, .inr (.int, 8), .inr (.int, 8), .inr (.int, 8), .inr (.int, 8), .inr (.int, 8), .inl 2, .inr (.int, 4), .inr (.int, 4), .inr (.int, 4), .inr (.int, 5), .inr (.int, 5), .inl 8, .inr (.int, 20000), .inr (.int, 4000), .inr (.boolean, 4000), .inr (.int, 8192), .inl 0, .inl 4, .inr (.int, 4000), .inl 4, .inr (.int, 4000), .inl 4, .inr (.int, 4000), .inl 4, .inr (.int, 3456), .inl 4, .inr (.int, 3456), .inr (.int, 9216), .inl 5, .inl 4, .inr (.int, 4000), .inl 4, .inr (.int, 4000), .inr (.int, 8192), .inl 8, .inr (.int, 20000), .inr (.int, 4000), .inr (.boolean, 4000), .inr (.int, 8192), .inl 5, .inl 4, .inr (.int, 4000), .inl 4, .inr (.int, 4000), .inr (.int, 8192), .inr (.int, 6), .inl 1, .inr (.int, 16), .inr (.int, 4), .inl 4, .inr (.int, 3456), .inr (.int, 4000), .inl 12, .inr (.byte, 1500), .inr (.byte, 1500), .inr (.byte, 1200), .inr (.int, 200), .inr (.int, 128), .inr (.boolean, 6), .inr (.int, 6), .inr (.int, 4), .inr (.int, 6), .inr (.int, 96), .inr (.int, 96), .inr (.int, 96), .inr (.int, 96), .inr (.int, 96), .inr (.int, 96), .inr (.int, 96), .inr (.int, 96), .inr (.int, 96), .inr (.int, 96), .inr (.int, 48), .inr (.int, 10), .inr (.int, 10), .inr (.int, 10), .inr (.int, 10), .inr (.int, 40), .inr (.byte, 320000), .inr (.int, 8192), .inr (.int, 8000), .inr (.int, 4000), .inr (.int, 4000), .inr (.int, 4000), .inr (.int, 9216), .inr (.int, 4000), .inr (.int, 4000), .inr (.int, 4000), .inr (.long, 1)]
def zK (L : Nat) : Nat → zx_K := fun q => if q = 0 then .inr (.int, L) else (zKL[q]?).getD (.inl 13)
theorem zs_callIv {d e j pc i k : Nat} {ls : List (Option Value)} {st as rest : List Value} {w w2 : zx_W} (hd : decode (zm_cc j) pc = .ok (.invokespecial i, 3)) (ht : zx_tg (zm_o j) i = some k) (hk : zx_ck k = 1) (hkn : k < 264) (hn : zx_na k = as.length) (hst : st = as.reverse ++ rest) (hc : (rest.map fun v => v.category).sum ≤ 8) (hr : zx_rcb 1 k as w = true) (ha : (zx_sl as).length ≤ zm_L k) (he : e ≤ d) (hu : zx_go e k 0 (zx_entry k as) [] w = some (none, w2)) : zx_go (d + 1) j pc ls st w = zx_go (d + 1) j (pc + 3) ls rest w2 := zs_callI hd ht hk hkn hn hst hc hr ha he hu
set_option maxRecDepth 20000 in
/-- RX6.<init> -/
theorem zi_0 (L : Nat) {a b : Nat} {σ : Nat → Nat → Int32} {τ : Nat → Nat → Int64} {ρ : Nat → Nat → Option Nat} (hf : zx_fr 5 σ τ ρ) : zx_go 1 1 0 [some (.ref 4)] [] ((5, a, b), zx_pk (zK L) 5, σ, τ, ρ) = some (none, ((17, a + 12, b + 978), zx_pk (zK L) 17, (zx_up (zx_up (zx_up (zx_up (zx_up σ 7 (Int32.toNatClampNeg 96) (-1)) 8 (Int32.toNatClampNeg 96) (-1)) 9 (Int32.toNatClampNeg 96) (-1)) 10 (Int32.toNatClampNeg 96) (-1)) 12 (Int32.toNatClampNeg 96) (-1)), τ, (zx_up (zx_up (zx_up (zx_up (zx_up (zx_up (zx_up (zx_up (zx_up (zx_up (zx_up (zx_up ρ 4 7 (some 5)) 4 8 (some 6)) 4 9 (some 7)) 4 10 (some 8)) 4 11 (some 9)) 4 12 (some 10)) 4 13 (some 11)) 4 14 (some 12)) 4 15 (some 13)) 4 16 (some 14)) 4 17 (some 15)) 4 18 (some 16)))) ∧ zx_fr 17 (zx_up (zx_up (zx_up (zx_up (zx_up σ 7 (Int32.toNatClampNeg 96) (-1)) 8 (Int32.toNatClampNeg 96) (-1)) 9 (Int32.toNatClampNeg 96) (-1)) 10 (Int32.toNatClampNeg 96) (-1)) 12 (Int32.toNatClampNeg 96) (-1)) τ (zx_up (zx_up (zx_up (zx_up (zx_up (zx_up (zx_up (zx_up (zx_up (zx_up (zx_up (zx_up ρ 4 7 (some 5)) 4 8 (some 6)) 4 9 (some 7)) 4 10 (some 8)) 4 11 (some 9)) 4 12 (some 10)) 4 13 (some 11)) 4 14 (some 12)) 4 15 (some 13)) 4 16 (some 14)) 4 17 (some 15)) 4 18 (some 16)) := by
  rw [zs_aload_n (ls := [some (.ref 4)]) zd_1_0 rfl]
  rw [zs_obj (r := []) zd_1_1 rfl (Nat.le_of_ble_eq_true rfl)]
  rw [zs_aload_n (ls := [some (.ref 4)]) zd_1_4 rfl]
  rw [zs_iconst (z := 4) zd_1_5 (by decide)]
  rw [zs_newarray (n := 5) (h9 := by decide) (x := 4) (Z := zK L) (m := 4) zd_1_6 rfl ⟨⟨by decide, by decide⟩, rfl⟩ (by decide) rfl hf]
  have hf1 := zx_fr.le (m := 6) hf (by decide)
  rw [zs_putR (n := 6) (K := zx_pk (zK L) 6) (q := 4) (p := 5) zd_1_8 rfl rfl (by decide +kernel) rfl (by decide)]
  have hf2 := zx_fr.upR (p := 4) (i := 7) (x := some 5) hf1 (by decide)
  rw [zs_aload_n (ls := [some (.ref 4)]) zd_1_11 rfl]
  rw [zs_iconst (z := 4) zd_1_12 (by decide)]
  rw [zs_newarray (n := 6) (h9 := by decide) (x := 4) (Z := zK L) (m := 4) zd_1_13 rfl ⟨⟨by decide, by decide⟩, rfl⟩ (by decide) rfl hf2]
  have hf3 := zx_fr.le (m := 7) hf2 (by decide)
  rw [zs_putR (n := 7) (K := zx_pk (zK L) 7) (q := 4) (p := 6) zd_1_15 rfl rfl (by decide +kernel) rfl (by decide)]
  have hf4 := zx_fr.upR (p := 4) (i := 8) (x := some 6) hf3 (by decide)
  rw [zs_aload_n (ls := [some (.ref 4)]) zd_1_18 rfl]
  rw [zs_bipush (z := 97) zd_1_19 (by decide)]
  rw [zs_newarray (n := 7) (h9 := by decide) (x := 97) (Z := zK L) (m := 97) zd_1_21 rfl ⟨⟨by decide, by decide⟩, rfl⟩ (by decide) rfl hf4]
  have hf5 := zx_fr.le (m := 8) hf4 (by decide)
  rw [zs_putR (n := 8) (K := zx_pk (zK L) 8) (q := 4) (p := 7) zd_1_23 rfl rfl (by decide +kernel) rfl (by decide)]
  have hf6 := zx_fr.upR (p := 4) (i := 9) (x := some 7) hf5 (by decide)
  rw [zs_aload_n (ls := [some (.ref 4)]) zd_1_26 rfl]
  rw [zs_bipush (z := 97) zd_1_27 (by decide)]
  rw [zs_newarray (n := 8) (h9 := by decide) (x := 97) (Z := zK L) (m := 97) zd_1_29 rfl ⟨⟨by decide, by decide⟩, rfl⟩ (by decide) rfl hf6]
  have hf7 := zx_fr.le (m := 9) hf6 (by decide)
  rw [zs_putR (n := 9) (K := zx_pk (zK L) 9) (q := 4) (p := 8) zd_1_31 rfl rfl (by decide +kernel) rfl (by decide)]
  have hf8 := zx_fr.upR (p := 4) (i := 10) (x := some 8) hf7 (by decide)
  rw [zs_aload_n (ls := [some (.ref 4)]) zd_1_34 rfl]
  rw [zs_bipush (z := 97) zd_1_35 (by decide)]
  rw [zs_newarray (n := 9) (h9 := by decide) (x := 97) (Z := zK L) (m := 97) zd_1_37 rfl ⟨⟨by decide, by decide⟩, rfl⟩ (by decide) rfl hf8]
  have hf9 := zx_fr.le (m := 10) hf8 (by decide)
  rw [zs_putR (n := 10) (K := zx_pk (zK L) 10) (q := 4) (p := 9) zd_1_39 rfl rfl (by decide +kernel) rfl (by decide)]
  have hf10 := zx_fr.upR (p := 4) (i := 11) (x := some 9) hf9 (by decide)
  rw [zs_aload_n (ls := [some (.ref 4)]) zd_1_42 rfl]
  rw [zs_bipush (z := 97) zd_1_43 (by decide)]
  rw [zs_newarray (n := 10) (h9 := by decide) (x := 97) (Z := zK L) (m := 97) zd_1_45 rfl ⟨⟨by decide, by decide⟩, rfl⟩ (by decide) rfl hf10]
  have hf11 := zx_fr.le (m := 11) hf10 (by decide)
  rw [zs_putR (n := 11) (K := zx_pk (zK L) 11) (q := 4) (p := 10) zd_1_47 rfl rfl (by decide +kernel) rfl (by decide)]
  have hf12 := zx_fr.upR (p := 4) (i := 12) (x := some 10) hf11 (by decide)
  rw [zs_aload_n (ls := [some (.ref 4)]) zd_1_50 rfl]
  rw [zs_bipush (z := 97) zd_1_51 (by decide)]
  rw [zs_newarray (n := 11) (h9 := by decide) (x := 97) (Z := zK L) (m := 97) zd_1_53 rfl ⟨⟨by decide, by decide⟩, rfl⟩ (by decide) rfl hf12]
  have hf13 := zx_fr.le (m := 12) hf12 (by decide)
  rw [zs_putR (n := 12) (K := zx_pk (zK L) 12) (q := 4) (p := 11) zd_1_55 rfl rfl (by decide +kernel) rfl (by decide)]
  have hf14 := zx_fr.upR (p := 4) (i := 13) (x := some 11) hf13 (by decide)
  rw [zs_aload_n (ls := [some (.ref 4)]) zd_1_58 rfl]
  rw [zs_bipush (z := 97) zd_1_59 (by decide)]
  rw [zs_newarray (n := 12) (h9 := by decide) (x := 97) (Z := zK L) (m := 97) zd_1_61 rfl ⟨⟨by decide, by decide⟩, rfl⟩ (by decide) rfl hf14]
  have hf15 := zx_fr.le (m := 13) hf14 (by decide)
  rw [zs_putR (n := 13) (K := zx_pk (zK L) 13) (q := 4) (p := 12) zd_1_63 rfl rfl (by decide +kernel) rfl (by decide)]
  have hf16 := zx_fr.upR (p := 4) (i := 14) (x := some 12) hf15 (by decide)
  rw [zs_aload_n (ls := [some (.ref 4)]) zd_1_66 rfl]
  rw [zs_bipush (z := 97) zd_1_67 (by decide)]
  rw [zs_newarray (n := 13) (h9 := by decide) (x := 97) (Z := zK L) (m := 97) zd_1_69 rfl ⟨⟨by decide, by decide⟩, rfl⟩ (by decide) rfl hf16]
  have hf17 := zx_fr.le (m := 14) hf16 (by decide)
  rw [zs_putR (n := 14) (K := zx_pk (zK L) 14) (q := 4) (p := 13) zd_1_71 rfl rfl (by decide +kernel) rfl (by decide)]
  have hf18 := zx_fr.upR (p := 4) (i := 15) (x := some 13) hf17 (by decide)
  rw [zs_aload_n (ls := [some (.ref 4)]) zd_1_74 rfl]
  rw [zs_bipush (z := 97) zd_1_75 (by decide)]
  rw [zs_newarray (n := 14) (h9 := by decide) (x := 97) (Z := zK L) (m := 97) zd_1_77 rfl ⟨⟨by decide, by decide⟩, rfl⟩ (by decide) rfl hf18]
  have hf19 := zx_fr.le (m := 15) hf18 (by decide)
  rw [zs_putR (n := 15) (K := zx_pk (zK L) 15) (q := 4) (p := 14) zd_1_79 rfl rfl (by decide +kernel) rfl (by decide)]
  have hf20 := zx_fr.upR (p := 4) (i := 16) (x := some 14) hf19 (by decide)
  rw [zs_aload_n (ls := [some (.ref 4)]) zd_1_82 rfl]
  rw [zs_bipush (z := 97) zd_1_83 (by decide)]
  rw [zs_newarray (n := 15) (h9 := by decide) (x := 97) (Z := zK L) (m := 97) zd_1_85 rfl ⟨⟨by decide, by decide⟩, rfl⟩ (by decide) rfl hf20]
  have hf21 := zx_fr.le (m := 16) hf20 (by decide)
  rw [zs_putR (n := 16) (K := zx_pk (zK L) 16) (q := 4) (p := 15) zd_1_87 rfl rfl (by decide +kernel) rfl (by decide)]
  have hf22 := zx_fr.upR (p := 4) (i := 17) (x := some 15) hf21 (by decide)
  rw [zs_aload_n (ls := [some (.ref 4)]) zd_1_90 rfl]
  rw [zs_bipush (z := 97) zd_1_91 (by decide)]
  rw [zs_newarray (n := 16) (h9 := by decide) (x := 97) (Z := zK L) (m := 97) zd_1_93 rfl ⟨⟨by decide, by decide⟩, rfl⟩ (by decide) rfl hf22]
  have hf23 := zx_fr.le (m := 17) hf22 (by decide)
  rw [zs_putR (n := 17) (K := zx_pk (zK L) 17) (q := 4) (p := 16) zd_1_95 rfl rfl (by decide +kernel) rfl (by decide)]
  have hf24 := zx_fr.upR (p := 4) (i := 18) (x := some 16) hf23 (by decide)
  rw [zs_aload_n (ls := [some (.ref 4)]) zd_1_98 rfl]
  rw [zs_getR (n := 17) (K := zx_pk (zK L) 17) (ρ := (zx_up (zx_up (zx_up (zx_up (zx_up (zx_up (zx_up (zx_up (zx_up (zx_up (zx_up (zx_up ρ 4 7 (some 5)) 4 8 (some 6)) 4 9 (some 7)) 4 10 (some 8)) 4 11 (some 9)) 4 12 (some 10)) 4 13 (some 11)) 4 14 (some 12)) 4 15 (some 13)) 4 16 (some 14)) 4 17 (some 15)) 4 18 (some 16))) (q := 4) (p := 7) zd_1_99 rfl rfl rfl (by decide) rfl]
  rw [zs_bipush (z := 96) zd_1_102 (by decide)]
  rw [zs_iconst (z := (-1)) zd_1_104 (by decide)]
  rw [zs_iastore (n := 17) (K := zx_pk (zK L) 17) (q := 7) (i := 96) zd_1_105 rfl ⟨by decide, by decide⟩ (by decide)]
  have hf25 := zx_fr.up (p := 7) (i := Int32.toNatClampNeg 96) (x := (-1)) hf24 (by decide)
  rw [zs_aload_n (ls := [some (.ref 4)]) zd_1_106 rfl]
  rw [zs_getR (n := 17) (K := zx_pk (zK L) 17) (ρ := (zx_up (zx_up (zx_up (zx_up (zx_up (zx_up (zx_up (zx_up (zx_up (zx_up (zx_up (zx_up ρ 4 7 (some 5)) 4 8 (some 6)) 4 9 (some 7)) 4 10 (some 8)) 4 11 (some 9)) 4 12 (some 10)) 4 13 (some 11)) 4 14 (some 12)) 4 15 (some 13)) 4 16 (some 14)) 4 17 (some 15)) 4 18 (some 16))) (q := 4) (p := 8) zd_1_107 rfl rfl rfl (by decide) rfl]
  rw [zs_bipush (z := 96) zd_1_110 (by decide)]
  rw [zs_iconst (z := (-1)) zd_1_112 (by decide)]
  rw [zs_iastore (n := 17) (K := zx_pk (zK L) 17) (q := 8) (i := 96) zd_1_113 rfl ⟨by decide, by decide⟩ (by decide)]
  have hf26 := zx_fr.up (p := 8) (i := Int32.toNatClampNeg 96) (x := (-1)) hf25 (by decide)
  rw [zs_aload_n (ls := [some (.ref 4)]) zd_1_114 rfl]
  rw [zs_getR (n := 17) (K := zx_pk (zK L) 17) (ρ := (zx_up (zx_up (zx_up (zx_up (zx_up (zx_up (zx_up (zx_up (zx_up (zx_up (zx_up (zx_up ρ 4 7 (some 5)) 4 8 (some 6)) 4 9 (some 7)) 4 10 (some 8)) 4 11 (some 9)) 4 12 (some 10)) 4 13 (some 11)) 4 14 (some 12)) 4 15 (some 13)) 4 16 (some 14)) 4 17 (some 15)) 4 18 (some 16))) (q := 4) (p := 9) zd_1_115 rfl rfl rfl (by decide) rfl]
  rw [zs_bipush (z := 96) zd_1_118 (by decide)]
  rw [zs_iconst (z := (-1)) zd_1_120 (by decide)]
  rw [zs_iastore (n := 17) (K := zx_pk (zK L) 17) (q := 9) (i := 96) zd_1_121 rfl ⟨by decide, by decide⟩ (by decide)]
  have hf27 := zx_fr.up (p := 9) (i := Int32.toNatClampNeg 96) (x := (-1)) hf26 (by decide)
  rw [zs_aload_n (ls := [some (.ref 4)]) zd_1_122 rfl]
  rw [zs_getR (n := 17) (K := zx_pk (zK L) 17) (ρ := (zx_up (zx_up (zx_up (zx_up (zx_up (zx_up (zx_up (zx_up (zx_up (zx_up (zx_up (zx_up ρ 4 7 (some 5)) 4 8 (some 6)) 4 9 (some 7)) 4 10 (some 8)) 4 11 (some 9)) 4 12 (some 10)) 4 13 (some 11)) 4 14 (some 12)) 4 15 (some 13)) 4 16 (some 14)) 4 17 (some 15)) 4 18 (some 16))) (q := 4) (p := 10) zd_1_123 rfl rfl rfl (by decide) rfl]
  rw [zs_bipush (z := 96) zd_1_126 (by decide)]
  rw [zs_iconst (z := (-1)) zd_1_128 (by decide)]
  rw [zs_iastore (n := 17) (K := zx_pk (zK L) 17) (q := 10) (i := 96) zd_1_129 rfl ⟨by decide, by decide⟩ (by decide)]
  have hf28 := zx_fr.up (p := 10) (i := Int32.toNatClampNeg 96) (x := (-1)) hf27 (by decide)
  rw [zs_aload_n (ls := [some (.ref 4)]) zd_1_130 rfl]
  rw [zs_getR (n := 17) (K := zx_pk (zK L) 17) (ρ := (zx_up (zx_up (zx_up (zx_up (zx_up (zx_up (zx_up (zx_up (zx_up (zx_up (zx_up (zx_up ρ 4 7 (some 5)) 4 8 (some 6)) 4 9 (some 7)) 4 10 (some 8)) 4 11 (some 9)) 4 12 (some 10)) 4 13 (some 11)) 4 14 (some 12)) 4 15 (some 13)) 4 16 (some 14)) 4 17 (some 15)) 4 18 (some 16))) (q := 4) (p := 12) zd_1_131 rfl rfl rfl (by decide) rfl]
  rw [zs_bipush (z := 96) zd_1_134 (by decide)]
  rw [zs_iconst (z := (-1)) zd_1_136 (by decide)]
  rw [zs_iastore (n := 17) (K := zx_pk (zK L) 17) (q := 12) (i := 96) zd_1_137 rfl ⟨by decide, by decide⟩ (by decide)]
  have hf29 := zx_fr.up (p := 12) (i := Int32.toNatClampNeg 96) (x := (-1)) hf28 (by decide)
  refine ⟨(zs_return zd_1_138 rfl).trans ?_, hf29⟩
  simp only [Nat.add_assoc, Nat.reduceAdd]
set_option maxRecDepth 20000 in
/-- RX3.<init> -/
theorem zi_1 (L : Nat) {a b : Nat} {σ : Nat → Nat → Int32} {τ : Nat → Nat → Int64} {ρ : Nat → Nat → Option Nat} (hf : zx_fr 19 σ τ ρ) : zx_go 1 3 0 [some (.ref 18)] [] ((19, a, b), zx_pk (zK L) 19, σ, τ, ρ) = some (none, ((23, a + 4, b + 45), zx_pk (zK L) 23, σ, τ, (zx_up (zx_up (zx_up (zx_up ρ 18 0 (some 19)) 18 1 (some 20)) 18 2 (some 21)) 18 4 (some 22)))) ∧ zx_fr 23 σ τ (zx_up (zx_up (zx_up (zx_up ρ 18 0 (some 19)) 18 1 (some 20)) 18 2 (some 21)) 18 4 (some 22)) := by
  rw [zs_aload_n (ls := [some (.ref 18)]) zd_3_0 rfl]
  rw [zs_obj (r := []) zd_3_1 rfl (Nat.le_of_ble_eq_true rfl)]
  rw [zs_aload_n (ls := [some (.ref 18)]) zd_3_4 rfl]
  rw [zs_bipush (z := 14) zd_3_5 (by decide)]
  rw [zs_newarray (n := 19) (h9 := by decide) (x := 14) (Z := zK L) (m := 14) zd_3_7 rfl ⟨⟨by decide, by decide⟩, rfl⟩ (by decide) rfl hf]
  have hf1 := zx_fr.le (m := 20) hf (by decide)
  rw [zs_putR (n := 20) (K := zx_pk (zK L) 20) (q := 18) (p := 19) zd_3_9 rfl rfl (by decide +kernel) rfl (by decide)]
  have hf2 := zx_fr.upR (p := 18) (i := 0) (x := some 19) hf1 (by decide)
  rw [zs_aload_n (ls := [some (.ref 18)]) zd_3_12 rfl]
  rw [zs_bipush (z := 14) zd_3_13 (by decide)]
  rw [zs_newarray (n := 20) (h9 := by decide) (x := 14) (Z := zK L) (m := 14) zd_3_15 rfl ⟨⟨by decide, by decide⟩, rfl⟩ (by decide) rfl hf2]
  have hf3 := zx_fr.le (m := 21) hf2 (by decide)
  rw [zs_putR (n := 21) (K := zx_pk (zK L) 21) (q := 18) (p := 20) zd_3_17 rfl rfl (by decide +kernel) rfl (by decide)]
  have hf4 := zx_fr.upR (p := 18) (i := 1) (x := some 20) hf3 (by decide)
  rw [zs_aload_n (ls := [some (.ref 18)]) zd_3_20 rfl]
  rw [zs_bipush (z := 14) zd_3_21 (by decide)]
  rw [zs_newarray (n := 21) (h9 := by decide) (x := 14) (Z := zK L) (m := 14) zd_3_23 rfl ⟨⟨by decide, by decide⟩, rfl⟩ (by decide) rfl hf4]
  have hf5 := zx_fr.le (m := 22) hf4 (by decide)
  rw [zs_putR (n := 22) (K := zx_pk (zK L) 22) (q := 18) (p := 21) zd_3_25 rfl rfl (by decide +kernel) rfl (by decide)]
  have hf6 := zx_fr.upR (p := 18) (i := 2) (x := some 21) hf5 (by decide)
  rw [zs_aload_n (ls := [some (.ref 18)]) zd_3_28 rfl]
  rw [zs_iconst (z := 3) zd_3_29 (by decide)]
  rw [zs_newarray (n := 22) (h9 := by decide) (x := 3) (Z := zK L) (m := 3) zd_3_30 rfl ⟨⟨by decide, by decide⟩, rfl⟩ (by decide) rfl hf6]
  have hf7 := zx_fr.le (m := 23) hf6 (by decide)
  rw [zs_putR (n := 23) (K := zx_pk (zK L) 23) (q := 18) (p := 22) zd_3_32 rfl rfl (by decide +kernel) rfl (by decide)]
  have hf8 := zx_fr.upR (p := 18) (i := 4) (x := some 22) hf7 (by decide)
  refine ⟨(zs_return zd_3_35 rfl).trans ?_, hf8⟩
  simp only [Nat.add_assoc, Nat.reduceAdd]
set_option maxRecDepth 20000 in
/-- RX9.<init> -/
theorem zi_2 (L : Nat) {a b : Nat} {σ : Nat → Nat → Int32} {τ : Nat → Nat → Int64} {ρ : Nat → Nat → Option Nat} (hf : zx_fr 26 σ τ ρ) : zx_go 1 4 0 [some (.ref 25), some (.ref 3)] [] ((26, a, b), zx_pk (zK L) 26, σ, τ, ρ) = some (none, ((29, a + 3, b + 4503), zx_pk (zK L) 29, σ, τ, (zx_up (zx_up (zx_up (zx_up ρ 25 1 (some 26)) 25 2 (some 27)) 25 3 (some 28)) 25 0 (some 3)))) ∧ zx_fr 29 σ τ (zx_up (zx_up (zx_up (zx_up ρ 25 1 (some 26)) 25 2 (some 27)) 25 3 (some 28)) 25 0 (some 3)) := by
  rw [zs_aload_n (ls := [some (.ref 25), some (.ref 3)]) zd_4_0 rfl]
  rw [zs_obj (r := []) zd_4_1 rfl (Nat.le_of_ble_eq_true rfl)]
  rw [zs_aload_n (ls := [some (.ref 25), some (.ref 3)]) zd_4_4 rfl]
  rw [zs_sipush (z := 1501) zd_4_5 (by decide)]
  rw [zs_newarray (n := 26) (h9 := by decide) (x := 1501) (Z := zK L) (m := 1501) zd_4_8 rfl ⟨⟨by decide, by decide⟩, rfl⟩ (by decide) rfl hf]
  have hf1 := zx_fr.le (m := 27) hf (by decide)
  rw [zs_putR (n := 27) (K := zx_pk (zK L) 27) (q := 25) (p := 26) zd_4_10 rfl rfl (by decide +kernel) rfl (by decide)]
  have hf2 := zx_fr.upR (p := 25) (i := 1) (x := some 26) hf1 (by decide)
  rw [zs_aload_n (ls := [some (.ref 25), some (.ref 3)]) zd_4_13 rfl]
  rw [zs_sipush (z := 1501) zd_4_14 (by decide)]
  rw [zs_newarray (n := 27) (h9 := by decide) (x := 1501) (Z := zK L) (m := 1501) zd_4_17 rfl ⟨⟨by decide, by decide⟩, rfl⟩ (by decide) rfl hf2]
  have hf3 := zx_fr.le (m := 28) hf2 (by decide)
  rw [zs_putR (n := 28) (K := zx_pk (zK L) 28) (q := 25) (p := 27) zd_4_19 rfl rfl (by decide +kernel) rfl (by decide)]
  have hf4 := zx_fr.upR (p := 25) (i := 2) (x := some 27) hf3 (by decide)
  rw [zs_aload_n (ls := [some (.ref 25), some (.ref 3)]) zd_4_22 rfl]
  rw [zs_sipush (z := 1501) zd_4_23 (by decide)]
  rw [zs_newarray (n := 28) (h9 := by decide) (x := 1501) (Z := zK L) (m := 1501) zd_4_26 rfl ⟨⟨by decide, by decide⟩, rfl⟩ (by decide) rfl hf4]
  have hf5 := zx_fr.le (m := 29) hf4 (by decide)
  rw [zs_putR (n := 29) (K := zx_pk (zK L) 29) (q := 25) (p := 28) zd_4_28 rfl rfl (by decide +kernel) rfl (by decide)]
  have hf6 := zx_fr.upR (p := 25) (i := 3) (x := some 28) hf5 (by decide)
  rw [zs_aload_n (ls := [some (.ref 25), some (.ref 3)]) zd_4_31 rfl]
  rw [zs_aload_n (ls := [some (.ref 25), some (.ref 3)]) zd_4_32 rfl]
  rw [zs_putR (n := 29) (K := zx_pk (zK L) 29) (q := 25) (p := 3) zd_4_33 rfl rfl (by decide +kernel) rfl (by decide)]
  have hf7 := zx_fr.upR (p := 25) (i := 0) (x := some 3) hf6 (by decide)
  refine ⟨(zs_return zd_4_36 rfl).trans ?_, hf7⟩
  simp only [Nat.add_assoc, Nat.reduceAdd]
set_option maxRecDepth 20000 in
/-- RX10.<init> -/
theorem zi_3 (L : Nat) {a b : Nat} {σ : Nat → Nat → Int32} {τ : Nat → Nat → Int64} {ρ : Nat → Nat → Option Nat} (hf : zx_fr 30 σ τ ρ) : zx_go 1 5 0 [some (.ref 29), some (.ref 4)] [] ((30, a, b), zx_pk (zK L) 30, σ, τ, ρ) = some (none, ((35, a + 5, b + 40), zx_pk (zK L) 35, σ, τ, (zx_up (zx_up (zx_up (zx_up (zx_up (zx_up ρ 29 1 (some 30)) 29 2 (some 31)) 29 3 (some 32)) 29 4 (some 33)) 29 5 (some 34)) 29 0 (some 4)))) ∧ zx_fr 35 σ τ (zx_up (zx_up (zx_up (zx_up (zx_up (zx_up ρ 29 1 (some 30)) 29 2 (some 31)) 29 3 (some 32)) 29 4 (some 33)) 29 5 (some 34)) 29 0 (some 4)) := by
  rw [zs_aload_n (ls := [some (.ref 29), some (.ref 4)]) zd_5_0 rfl]
  rw [zs_obj (r := []) zd_5_1 rfl (Nat.le_of_ble_eq_true rfl)]
  rw [zs_aload_n (ls := [some (.ref 29), some (.ref 4)]) zd_5_4 rfl]
  rw [zs_bipush (z := 8) zd_5_5 (by decide)]
  rw [zs_newarray (n := 30) (h9 := by decide) (x := 8) (Z := zK L) (m := 8) zd_5_7 rfl ⟨⟨by decide, by decide⟩, rfl⟩ (by decide) rfl hf]
  have hf1 := zx_fr.le (m := 31) hf (by decide)
  rw [zs_putR (n := 31) (K := zx_pk (zK L) 31) (q := 29) (p := 30) zd_5_9 rfl rfl (by decide +kernel) rfl (by decide)]
  have hf2 := zx_fr.upR (p := 29) (i := 1) (x := some 30) hf1 (by decide)
  rw [zs_aload_n (ls := [some (.ref 29), some (.ref 4)]) zd_5_12 rfl]
  rw [zs_bipush (z := 8) zd_5_13 (by decide)]
  rw [zs_newarray (n := 31) (h9 := by decide) (x := 8) (Z := zK L) (m := 8) zd_5_15 rfl ⟨⟨by decide, by decide⟩, rfl⟩ (by decide) rfl hf2]
  have hf3 := zx_fr.le (m := 32) hf2 (by decide)
  rw [zs_putR (n := 32) (K := zx_pk (zK L) 32) (q := 29) (p := 31) zd_5_17 rfl rfl (by decide +kernel) rfl (by decide)]
  have hf4 := zx_fr.upR (p := 29) (i := 2) (x := some 31) hf3 (by decide)
  rw [zs_aload_n (ls := [some (.ref 29), some (.ref 4)]) zd_5_20 rfl]
  rw [zs_bipush (z := 8) zd_5_21 (by decide)]
  rw [zs_newarray (n := 32) (h9 := by decide) (x := 8) (Z := zK L) (m := 8) zd_5_23 rfl ⟨⟨by decide, by decide⟩, rfl⟩ (by decide) rfl hf4]
  have hf5 := zx_fr.le (m := 33) hf4 (by decide)
  rw [zs_putR (n := 33) (K := zx_pk (zK L) 33) (q := 29) (p := 32) zd_5_25 rfl rfl (by decide +kernel) rfl (by decide)]
  have hf6 := zx_fr.upR (p := 29) (i := 3) (x := some 32) hf5 (by decide)
  rw [zs_aload_n (ls := [some (.ref 29), some (.ref 4)]) zd_5_28 rfl]
  rw [zs_bipush (z := 8) zd_5_29 (by decide)]
  rw [zs_newarray (n := 33) (h9 := by decide) (x := 8) (Z := zK L) (m := 8) zd_5_31 rfl ⟨⟨by decide, by decide⟩, rfl⟩ (by decide) rfl hf6]
  have hf7 := zx_fr.le (m := 34) hf6 (by decide)
  rw [zs_putR (n := 34) (K := zx_pk (zK L) 34) (q := 29) (p := 33) zd_5_33 rfl rfl (by decide +kernel) rfl (by decide)]
  have hf8 := zx_fr.upR (p := 29) (i := 4) (x := some 33) hf7 (by decide)
  rw [zs_aload_n (ls := [some (.ref 29), some (.ref 4)]) zd_5_36 rfl]
  rw [zs_bipush (z := 8) zd_5_37 (by decide)]
  rw [zs_newarray (n := 34) (h9 := by decide) (x := 8) (Z := zK L) (m := 8) zd_5_39 rfl ⟨⟨by decide, by decide⟩, rfl⟩ (by decide) rfl hf8]
  have hf9 := zx_fr.le (m := 35) hf8 (by decide)
  rw [zs_putR (n := 35) (K := zx_pk (zK L) 35) (q := 29) (p := 34) zd_5_41 rfl rfl (by decide +kernel) rfl (by decide)]
  have hf10 := zx_fr.upR (p := 29) (i := 5) (x := some 34) hf9 (by decide)
  rw [zs_aload_n (ls := [some (.ref 29), some (.ref 4)]) zd_5_44 rfl]
  rw [zs_aload_n (ls := [some (.ref 29), some (.ref 4)]) zd_5_45 rfl]
  rw [zs_putR (n := 35) (K := zx_pk (zK L) 35) (q := 29) (p := 4) zd_5_46 rfl rfl (by decide +kernel) rfl (by decide)]
  have hf11 := zx_fr.upR (p := 29) (i := 0) (x := some 4) hf10 (by decide)
  refine ⟨(zs_return zd_5_49 rfl).trans ?_, hf11⟩
  simp only [Nat.add_assoc, Nat.reduceAdd]
set_option maxRecDepth 20000 in
/-- RX7.<init> -/
theorem zi_4 (L : Nat) {a b : Nat} {σ : Nat → Nat → Int32} {τ : Nat → Nat → Int64} {ρ : Nat → Nat → Option Nat} (hf : zx_fr 18 σ τ ρ) : zx_go 2 2 0 [some (.ref 17), some (.ref 3), some (.ref 4)] [] ((18, a, b), zx_pk (zK L) 18, σ, τ, ρ) = some (none, ((35, a + 17, b + 4809), zx_pk (zK L) 35, σ, τ, (zx_up (zx_up (zx_up (zx_up (zx_up (zx_up (zx_up (zx_up (zx_up (zx_up (zx_up (zx_up (zx_up (zx_up (zx_up (zx_up (zx_up (zx_up (zx_up (zx_up ρ 18 0 (some 19)) 18 1 (some 20)) 18 2 (some 21)) 18 4 (some 22)) 17 2 (some 18)) 17 4 (some 23)) 17 5 (some 24)) 17 0 (some 4)) 25 1 (some 26)) 25 2 (some 27)) 25 3 (some 28)) 25 0 (some 3)) 17 1 (some 25)) 29 1 (some 30)) 29 2 (some 31)) 29 3 (some 32)) 29 4 (some 33)) 29 5 (some 34)) 29 0 (some 4)) 17 3 (some 29)))) ∧ zx_fr 35 σ τ (zx_up (zx_up (zx_up (zx_up (zx_up (zx_up (zx_up (zx_up (zx_up (zx_up (zx_up (zx_up (zx_up (zx_up (zx_up (zx_up (zx_up (zx_up (zx_up (zx_up ρ 18 0 (some 19)) 18 1 (some 20)) 18 2 (some 21)) 18 4 (some 22)) 17 2 (some 18)) 17 4 (some 23)) 17 5 (some 24)) 17 0 (some 4)) 25 1 (some 26)) 25 2 (some 27)) 25 3 (some 28)) 25 0 (some 3)) 17 1 (some 25)) 29 1 (some 30)) 29 2 (some 31)) 29 3 (some 32)) 29 4 (some 33)) 29 5 (some 34)) 29 0 (some 4)) 17 3 (some 29)) := by
  rw [zs_aload_n (ls := [some (.ref 17), some (.ref 3), some (.ref 4)]) zd_2_0 rfl]
  rw [zs_obj (r := []) zd_2_1 rfl (Nat.le_of_ble_eq_true rfl)]
  rw [zs_aload_n (ls := [some (.ref 17), some (.ref 3), some (.ref 4)]) zd_2_4 rfl]
  rw [zs_new (n := 18) (h9 := by decide) (c := 3) (m := 6) (Z := zK L) zd_2_5 rfl rfl rfl hf]
  have hf1 := zx_fr.le (m := 19) hf (by decide)
  rw [zs_dup (a := .ref 18) zd_2_8 rfl]
  rw [zs_callIv (st := [.ref 18, .ref 18, .ref 17]) (e := 1) (as := [.ref 18]) (rest := [.ref 18, .ref 17]) zd_2_9 rfl (by decide +kernel) (by decide) rfl rfl (Nat.le_of_ble_eq_true rfl) rfl (Nat.le_of_ble_eq_true rfl) (by decide) (zi_1 L hf1).1]
  have hfc1 := (zi_1 L (a := 0) (b := 0) hf1).2
  rw [zs_putR (n := 23) (K := zx_pk (zK L) 23) (q := 17) (p := 18) zd_2_12 rfl rfl (by decide +kernel) rfl (by decide)]
  have hf3 := zx_fr.upR (p := 17) (i := 2) (x := some 18) hfc1 (by decide)
  rw [zs_aload_n (ls := [some (.ref 17), some (.ref 3), some (.ref 4)]) zd_2_15 rfl]
  rw [zs_bipush (z := 96) zd_2_16 (by decide)]
  rw [zs_newarray (n := 23) (h9 := by decide) (x := 96) (Z := zK L) (m := 96) zd_2_18 rfl ⟨⟨by decide, by decide⟩, rfl⟩ (by decide) rfl hf3]
  have hf4 := zx_fr.le (m := 24) hf3 (by decide)
  rw [zs_putR (n := 24) (K := zx_pk (zK L) 24) (q := 17) (p := 23) zd_2_20 rfl rfl (by decide +kernel) rfl (by decide)]
  have hf5 := zx_fr.upR (p := 17) (i := 4) (x := some 23) hf4 (by decide)
  rw [zs_aload_n (ls := [some (.ref 17), some (.ref 3), some (.ref 4)]) zd_2_23 rfl]
  rw [zs_bipush (z := 96) zd_2_24 (by decide)]
  rw [zs_newarray (n := 24) (h9 := by decide) (x := 96) (Z := zK L) (m := 96) zd_2_26 rfl ⟨⟨by decide, by decide⟩, rfl⟩ (by decide) rfl hf5]
  have hf6 := zx_fr.le (m := 25) hf5 (by decide)
  rw [zs_putR (n := 25) (K := zx_pk (zK L) 25) (q := 17) (p := 24) zd_2_28 rfl rfl (by decide +kernel) rfl (by decide)]
  have hf7 := zx_fr.upR (p := 17) (i := 5) (x := some 24) hf6 (by decide)
  rw [zs_aload_n (ls := [some (.ref 17), some (.ref 3), some (.ref 4)]) zd_2_31 rfl]
  rw [zs_aload_n (ls := [some (.ref 17), some (.ref 3), some (.ref 4)]) zd_2_32 rfl]
  rw [zs_putR (n := 25) (K := zx_pk (zK L) 25) (q := 17) (p := 4) zd_2_33 rfl rfl (by decide +kernel) rfl (by decide)]
  have hf8 := zx_fr.upR (p := 17) (i := 0) (x := some 4) hf7 (by decide)
  rw [zs_aload_n (ls := [some (.ref 17), some (.ref 3), some (.ref 4)]) zd_2_36 rfl]
  rw [zs_new (n := 25) (h9 := by decide) (c := 9) (m := 10) (Z := zK L) zd_2_37 rfl rfl rfl hf8]
  have hf9 := zx_fr.le (m := 26) hf8 (by decide)
  rw [zs_dup (a := .ref 25) zd_2_40 rfl]
  rw [zs_aload_n (ls := [some (.ref 17), some (.ref 3), some (.ref 4)]) zd_2_41 rfl]
  rw [zs_callIv (st := [.ref 3, .ref 25, .ref 25, .ref 17]) (e := 1) (as := [.ref 25, .ref 3]) (rest := [.ref 25, .ref 17]) zd_2_42 rfl (by decide +kernel) (by decide) rfl rfl (Nat.le_of_ble_eq_true rfl) rfl (Nat.le_of_ble_eq_true rfl) (by decide) (zi_2 L hf9).1]
  have hfc9 := (zi_2 L (a := 0) (b := 0) hf9).2
  rw [zs_putR (n := 29) (K := zx_pk (zK L) 29) (q := 17) (p := 25) zd_2_45 rfl rfl (by decide +kernel) rfl (by decide)]
  have hf11 := zx_fr.upR (p := 17) (i := 1) (x := some 25) hfc9 (by decide)
  rw [zs_aload_n (ls := [some (.ref 17), some (.ref 3), some (.ref 4)]) zd_2_48 rfl]
  rw [zs_new (n := 29) (h9 := by decide) (c := 10) (m := 13) (Z := zK L) zd_2_49 rfl rfl rfl hf11]
  have hf12 := zx_fr.le (m := 30) hf11 (by decide)
  rw [zs_dup (a := .ref 29) zd_2_52 rfl]
  rw [zs_aload_n (ls := [some (.ref 17), some (.ref 3), some (.ref 4)]) zd_2_53 rfl]
  rw [zs_callIv (st := [.ref 4, .ref 29, .ref 29, .ref 17]) (e := 1) (as := [.ref 29, .ref 4]) (rest := [.ref 29, .ref 17]) zd_2_54 rfl (by decide +kernel) (by decide) rfl rfl (Nat.le_of_ble_eq_true rfl) rfl (Nat.le_of_ble_eq_true rfl) (by decide) (zi_3 L hf12).1]
  have hfc12 := (zi_3 L (a := 0) (b := 0) hf12).2
  rw [zs_putR (n := 35) (K := zx_pk (zK L) 35) (q := 17) (p := 29) zd_2_57 rfl rfl (by decide +kernel) rfl (by decide)]
  have hf14 := zx_fr.upR (p := 17) (i := 3) (x := some 29) hfc12 (by decide)
  refine ⟨(zs_return zd_2_60 rfl).trans ?_, hf14⟩
  simp only [Nat.add_assoc, Nat.reduceAdd]
set_option maxRecDepth 20000 in
/-- RX2.<init> -/
theorem zi_5 (L : Nat) {a b : Nat} {σ : Nat → Nat → Int32} {τ : Nat → Nat → Int64} {ρ : Nat → Nat → Option Nat} (hf : zx_fr 36 σ τ ρ) : zx_go 1 6 0 [some (.ref 35), some (.ref 4)] [] ((36, a, b), zx_pk (zK L) 36, σ, τ, ρ) = some (none, ((41, a + 5, b + 22), zx_pk (zK L) 41, σ, τ, (zx_up (zx_up (zx_up (zx_up (zx_up (zx_up ρ 35 1 (some 36)) 35 2 (some 37)) 35 3 (some 38)) 35 4 (some 39)) 35 5 (some 40)) 35 0 (some 4)))) ∧ zx_fr 41 σ τ (zx_up (zx_up (zx_up (zx_up (zx_up (zx_up ρ 35 1 (some 36)) 35 2 (some 37)) 35 3 (some 38)) 35 4 (some 39)) 35 5 (some 40)) 35 0 (some 4)) := by
  rw [zs_aload_n (ls := [some (.ref 35), some (.ref 4)]) zd_6_0 rfl]
  rw [zs_obj (r := []) zd_6_1 rfl (Nat.le_of_ble_eq_true rfl)]
  rw [zs_aload_n (ls := [some (.ref 35), some (.ref 4)]) zd_6_4 rfl]
  rw [zs_iconst (z := 4) zd_6_5 (by decide)]
  rw [zs_newarray (n := 36) (h9 := by decide) (x := 4) (Z := zK L) (m := 4) zd_6_6 rfl ⟨⟨by decide, by decide⟩, rfl⟩ (by decide) rfl hf]
  have hf1 := zx_fr.le (m := 37) hf (by decide)
  rw [zs_putR (n := 37) (K := zx_pk (zK L) 37) (q := 35) (p := 36) zd_6_8 rfl rfl (by decide +kernel) rfl (by decide)]
  have hf2 := zx_fr.upR (p := 35) (i := 1) (x := some 36) hf1 (by decide)
  rw [zs_aload_n (ls := [some (.ref 35), some (.ref 4)]) zd_6_11 rfl]
  rw [zs_iconst (z := 4) zd_6_12 (by decide)]
  rw [zs_newarray (n := 37) (h9 := by decide) (x := 4) (Z := zK L) (m := 4) zd_6_13 rfl ⟨⟨by decide, by decide⟩, rfl⟩ (by decide) rfl hf2]
  have hf3 := zx_fr.le (m := 38) hf2 (by decide)
  rw [zs_putR (n := 38) (K := zx_pk (zK L) 38) (q := 35) (p := 37) zd_6_15 rfl rfl (by decide +kernel) rfl (by decide)]
  have hf4 := zx_fr.upR (p := 35) (i := 2) (x := some 37) hf3 (by decide)
  rw [zs_aload_n (ls := [some (.ref 35), some (.ref 4)]) zd_6_18 rfl]
  rw [zs_iconst (z := 4) zd_6_19 (by decide)]
  rw [zs_newarray (n := 38) (h9 := by decide) (x := 4) (Z := zK L) (m := 4) zd_6_20 rfl ⟨⟨by decide, by decide⟩, rfl⟩ (by decide) rfl hf4]
  have hf5 := zx_fr.le (m := 39) hf4 (by decide)
  rw [zs_putR (n := 39) (K := zx_pk (zK L) 39) (q := 35) (p := 38) zd_6_22 rfl rfl (by decide +kernel) rfl (by decide)]
  have hf6 := zx_fr.upR (p := 35) (i := 3) (x := some 38) hf5 (by decide)
  rw [zs_aload_n (ls := [some (.ref 35), some (.ref 4)]) zd_6_25 rfl]
  rw [zs_iconst (z := 5) zd_6_26 (by decide)]
  rw [zs_newarray (n := 39) (h9 := by decide) (x := 5) (Z := zK L) (m := 5) zd_6_27 rfl ⟨⟨by decide, by decide⟩, rfl⟩ (by decide) rfl hf6]
  have hf7 := zx_fr.le (m := 40) hf6 (by decide)
  rw [zs_putR (n := 40) (K := zx_pk (zK L) 40) (q := 35) (p := 39) zd_6_29 rfl rfl (by decide +kernel) rfl (by decide)]
  have hf8 := zx_fr.upR (p := 35) (i := 4) (x := some 39) hf7 (by decide)
  rw [zs_aload_n (ls := [some (.ref 35), some (.ref 4)]) zd_6_32 rfl]
  rw [zs_iconst (z := 5) zd_6_33 (by decide)]
  rw [zs_newarray (n := 40) (h9 := by decide) (x := 5) (Z := zK L) (m := 5) zd_6_34 rfl ⟨⟨by decide, by decide⟩, rfl⟩ (by decide) rfl hf8]
  have hf9 := zx_fr.le (m := 41) hf8 (by decide)
  rw [zs_putR (n := 41) (K := zx_pk (zK L) 41) (q := 35) (p := 40) zd_6_36 rfl rfl (by decide +kernel) rfl (by decide)]
  have hf10 := zx_fr.upR (p := 35) (i := 5) (x := some 40) hf9 (by decide)
  rw [zs_aload_n (ls := [some (.ref 35), some (.ref 4)]) zd_6_39 rfl]
  rw [zs_aload_n (ls := [some (.ref 35), some (.ref 4)]) zd_6_40 rfl]
  rw [zs_putR (n := 41) (K := zx_pk (zK L) 41) (q := 35) (p := 4) zd_6_41 rfl rfl (by decide +kernel) rfl (by decide)]
  have hf11 := zx_fr.upR (p := 35) (i := 0) (x := some 4) hf10 (by decide)
  refine ⟨(zs_return zd_6_44 rfl).trans ?_, hf11⟩
  simp only [Nat.add_assoc, Nat.reduceAdd]
set_option maxRecDepth 20000 in
/-- RX8.<init> -/
theorem zi_6 (L : Nat) {a b : Nat} {σ : Nat → Nat → Int32} {τ : Nat → Nat → Int64} {ρ : Nat → Nat → Option Nat} (hf : zx_fr 42 σ τ ρ) : zx_go 1 7 0 [some (.ref 41), some (.ref 4), some (.ref 35)] [] ((42, a, b), zx_pk (zK L) 42, σ, τ, ρ) = some (none, ((46, a + 4, b + 36192), zx_pk (zK L) 46, σ, τ, (zx_up (zx_up (zx_up (zx_up (zx_up (zx_up ρ 41 2 (some 42)) 41 3 (some 43)) 41 4 (some 44)) 41 5 (some 45)) 41 0 (some 4)) 41 1 (some 35)))) ∧ zx_fr 46 σ τ (zx_up (zx_up (zx_up (zx_up (zx_up (zx_up ρ 41 2 (some 42)) 41 3 (some 43)) 41 4 (some 44)) 41 5 (some 45)) 41 0 (some 4)) 41 1 (some 35)) := by
  rw [zs_aload_n (ls := [some (.ref 41), some (.ref 4), some (.ref 35)]) zd_7_0 rfl]
  rw [zs_obj (r := []) zd_7_1 rfl (Nat.le_of_ble_eq_true rfl)]
  rw [zs_aload_n (ls := [some (.ref 41), some (.ref 4), some (.ref 35)]) zd_7_4 rfl]
  rw [zs_sipush (z := 20000) zd_7_5 (by decide)]
  rw [zs_newarray (n := 42) (h9 := by decide) (x := 20000) (Z := zK L) (m := 20000) zd_7_8 rfl ⟨⟨by decide, by decide⟩, rfl⟩ (by decide) rfl hf]
  have hf1 := zx_fr.le (m := 43) hf (by decide)
  rw [zs_putR (n := 43) (K := zx_pk (zK L) 43) (q := 41) (p := 42) zd_7_10 rfl rfl (by decide +kernel) rfl (by decide)]
  have hf2 := zx_fr.upR (p := 41) (i := 2) (x := some 42) hf1 (by decide)
  rw [zs_aload_n (ls := [some (.ref 41), some (.ref 4), some (.ref 35)]) zd_7_13 rfl]
  rw [zs_sipush (z := 4000) zd_7_14 (by decide)]
  rw [zs_newarray (n := 43) (h9 := by decide) (x := 4000) (Z := zK L) (m := 4000) zd_7_17 rfl ⟨⟨by decide, by decide⟩, rfl⟩ (by decide) rfl hf2]
  have hf3 := zx_fr.le (m := 44) hf2 (by decide)
  rw [zs_putR (n := 44) (K := zx_pk (zK L) 44) (q := 41) (p := 43) zd_7_19 rfl rfl (by decide +kernel) rfl (by decide)]
  have hf4 := zx_fr.upR (p := 41) (i := 3) (x := some 43) hf3 (by decide)
  rw [zs_aload_n (ls := [some (.ref 41), some (.ref 4), some (.ref 35)]) zd_7_22 rfl]
  rw [zs_sipush (z := 4000) zd_7_23 (by decide)]
  rw [zs_newarray (n := 44) (h9 := by decide) (x := 4000) (Z := zK L) (m := 4000) zd_7_26 rfl ⟨⟨by decide, by decide⟩, rfl⟩ (by decide) rfl hf4]
  have hf5 := zx_fr.le (m := 45) hf4 (by decide)
  rw [zs_putR (n := 45) (K := zx_pk (zK L) 45) (q := 41) (p := 44) zd_7_28 rfl rfl (by decide +kernel) rfl (by decide)]
  have hf6 := zx_fr.upR (p := 41) (i := 4) (x := some 44) hf5 (by decide)
  rw [zs_aload_n (ls := [some (.ref 41), some (.ref 4), some (.ref 35)]) zd_7_31 rfl]
  rw [zs_sipush (z := 8192) zd_7_32 (by decide)]
  rw [zs_newarray (n := 45) (h9 := by decide) (x := 8192) (Z := zK L) (m := 8192) zd_7_35 rfl ⟨⟨by decide, by decide⟩, rfl⟩ (by decide) rfl hf6]
  have hf7 := zx_fr.le (m := 46) hf6 (by decide)
  rw [zs_putR (n := 46) (K := zx_pk (zK L) 46) (q := 41) (p := 45) zd_7_37 rfl rfl (by decide +kernel) rfl (by decide)]
  have hf8 := zx_fr.upR (p := 41) (i := 5) (x := some 45) hf7 (by decide)
  rw [zs_aload_n (ls := [some (.ref 41), some (.ref 4), some (.ref 35)]) zd_7_40 rfl]
  rw [zs_aload_n (ls := [some (.ref 41), some (.ref 4), some (.ref 35)]) zd_7_41 rfl]
  rw [zs_putR (n := 46) (K := zx_pk (zK L) 46) (q := 41) (p := 4) zd_7_42 rfl rfl (by decide +kernel) rfl (by decide)]
  have hf9 := zx_fr.upR (p := 41) (i := 0) (x := some 4) hf8 (by decide)
  rw [zs_aload_n (ls := [some (.ref 41), some (.ref 4), some (.ref 35)]) zd_7_45 rfl]
  rw [zs_aload_n (ls := [some (.ref 41), some (.ref 4), some (.ref 35)]) zd_7_46 rfl]
  rw [zs_putR (n := 46) (K := zx_pk (zK L) 46) (q := 41) (p := 35) zd_7_47 rfl rfl (by decide +kernel) rfl (by decide)]
  have hf10 := zx_fr.upR (p := 41) (i := 1) (x := some 35) hf9 (by decide)
  refine ⟨(zs_return zd_7_50 rfl).trans ?_, hf10⟩
  simp only [Nat.add_assoc, Nat.reduceAdd]
set_option maxRecDepth 20000 in
/-- RX4.<init> -/
theorem zi_7 (L : Nat) {a b : Nat} {σ : Nat → Nat → Int32} {τ : Nat → Nat → Int64} {ρ : Nat → Nat → Option Nat} (hf : zx_fr 48 σ τ ρ) : zx_go 1 9 0 [some (.ref 47), some (.int 4000)] [] ((48, a, b), zx_pk (zK L) 48, σ, τ, ρ) = some (none, ((49, a + 1, b + 4000), zx_pk (zK L) 49, σ, τ, (zx_up ρ 47 0 (some 48)))) ∧ zx_fr 49 σ τ (zx_up ρ 47 0 (some 48)) := by
  rw [zs_aload_n (ls := [some (.ref 47), some (.int 4000)]) zd_9_0 rfl]
  rw [zs_obj (r := []) zd_9_1 rfl (Nat.le_of_ble_eq_true rfl)]
  rw [zs_aload_n (ls := [some (.ref 47), some (.int 4000)]) zd_9_4 rfl]
  rw [zs_iload_n (ls := [some (.ref 47), some (.int 4000)]) zd_9_5 rfl]
  rw [zs_iconst (z := 0) zd_9_6 (by decide)]
  rw [zs_max (r := [.ref 47]) zd_9_7 rfl (Nat.le_of_ble_eq_true rfl)]
  rw [show (if (4000 : Int32) < 0 then (0 : Int32) else 4000) = 4000 by decide]
  rw [zs_newarray (n := 48) (h9 := by decide) (x := 4000) (Z := zK L) (m := 4000) zd_9_10 rfl ⟨⟨by decide, by decide⟩, rfl⟩ (by decide) rfl hf]
  have hf1 := zx_fr.le (m := 49) hf (by decide)
  rw [zs_putR (n := 49) (K := zx_pk (zK L) 49) (q := 47) (p := 48) zd_9_12 rfl rfl (by decide +kernel) rfl (by decide)]
  have hf2 := zx_fr.upR (p := 47) (i := 0) (x := some 48) hf1 (by decide)
  refine ⟨(zs_return zd_9_15 rfl).trans ?_, hf2⟩
  simp only [Nat.add_assoc, Nat.reduceAdd]
set_option maxRecDepth 20000 in
/-- RX4.<init> -/
theorem zi_8 (L : Nat) {a b : Nat} {σ : Nat → Nat → Int32} {τ : Nat → Nat → Int64} {ρ : Nat → Nat → Option Nat} (hf : zx_fr 50 σ τ ρ) : zx_go 1 9 0 [some (.ref 49), some (.int 4000)] [] ((50, a, b), zx_pk (zK L) 50, σ, τ, ρ) = some (none, ((51, a + 1, b + 4000), zx_pk (zK L) 51, σ, τ, (zx_up ρ 49 0 (some 50)))) ∧ zx_fr 51 σ τ (zx_up ρ 49 0 (some 50)) := by
  rw [zs_aload_n (ls := [some (.ref 49), some (.int 4000)]) zd_9_0 rfl]
  rw [zs_obj (r := []) zd_9_1 rfl (Nat.le_of_ble_eq_true rfl)]
  rw [zs_aload_n (ls := [some (.ref 49), some (.int 4000)]) zd_9_4 rfl]
  rw [zs_iload_n (ls := [some (.ref 49), some (.int 4000)]) zd_9_5 rfl]
  rw [zs_iconst (z := 0) zd_9_6 (by decide)]
  rw [zs_max (r := [.ref 49]) zd_9_7 rfl (Nat.le_of_ble_eq_true rfl)]
  rw [show (if (4000 : Int32) < 0 then (0 : Int32) else 4000) = 4000 by decide]
  rw [zs_newarray (n := 50) (h9 := by decide) (x := 4000) (Z := zK L) (m := 4000) zd_9_10 rfl ⟨⟨by decide, by decide⟩, rfl⟩ (by decide) rfl hf]
  have hf1 := zx_fr.le (m := 51) hf (by decide)
  rw [zs_putR (n := 51) (K := zx_pk (zK L) 51) (q := 49) (p := 50) zd_9_12 rfl rfl (by decide +kernel) rfl (by decide)]
  have hf2 := zx_fr.upR (p := 49) (i := 0) (x := some 50) hf1 (by decide)
  refine ⟨(zs_return zd_9_15 rfl).trans ?_, hf2⟩
  simp only [Nat.add_assoc, Nat.reduceAdd]
set_option maxRecDepth 20000 in
/-- RX4.<init> -/
theorem zi_9 (L : Nat) {a b : Nat} {σ : Nat → Nat → Int32} {τ : Nat → Nat → Int64} {ρ : Nat → Nat → Option Nat} (hf : zx_fr 52 σ τ ρ) : zx_go 1 9 0 [some (.ref 51), some (.int 4000)] [] ((52, a, b), zx_pk (zK L) 52, σ, τ, ρ) = some (none, ((53, a + 1, b + 4000), zx_pk (zK L) 53, σ, τ, (zx_up ρ 51 0 (some 52)))) ∧ zx_fr 53 σ τ (zx_up ρ 51 0 (some 52)) := by
  rw [zs_aload_n (ls := [some (.ref 51), some (.int 4000)]) zd_9_0 rfl]
  rw [zs_obj (r := []) zd_9_1 rfl (Nat.le_of_ble_eq_true rfl)]
  rw [zs_aload_n (ls := [some (.ref 51), some (.int 4000)]) zd_9_4 rfl]
  rw [zs_iload_n (ls := [some (.ref 51), some (.int 4000)]) zd_9_5 rfl]
  rw [zs_iconst (z := 0) zd_9_6 (by decide)]
  rw [zs_max (r := [.ref 51]) zd_9_7 rfl (Nat.le_of_ble_eq_true rfl)]
  rw [show (if (4000 : Int32) < 0 then (0 : Int32) else 4000) = 4000 by decide]
  rw [zs_newarray (n := 52) (h9 := by decide) (x := 4000) (Z := zK L) (m := 4000) zd_9_10 rfl ⟨⟨by decide, by decide⟩, rfl⟩ (by decide) rfl hf]
  have hf1 := zx_fr.le (m := 53) hf (by decide)
  rw [zs_putR (n := 53) (K := zx_pk (zK L) 53) (q := 51) (p := 52) zd_9_12 rfl rfl (by decide +kernel) rfl (by decide)]
  have hf2 := zx_fr.upR (p := 51) (i := 0) (x := some 52) hf1 (by decide)
  refine ⟨(zs_return zd_9_15 rfl).trans ?_, hf2⟩
  simp only [Nat.add_assoc, Nat.reduceAdd]
set_option maxRecDepth 20000 in
/-- RX4.<init> -/
theorem zi_10 (L : Nat) {a b : Nat} {σ : Nat → Nat → Int32} {τ : Nat → Nat → Int64} {ρ : Nat → Nat → Option Nat} (hf : zx_fr 54 σ τ ρ) : zx_go 1 9 0 [some (.ref 53), some (.int 3456)] [] ((54, a, b), zx_pk (zK L) 54, σ, τ, ρ) = some (none, ((55, a + 1, b + 3456), zx_pk (zK L) 55, σ, τ, (zx_up ρ 53 0 (some 54)))) ∧ zx_fr 55 σ τ (zx_up ρ 53 0 (some 54)) := by
  rw [zs_aload_n (ls := [some (.ref 53), some (.int 3456)]) zd_9_0 rfl]
  rw [zs_obj (r := []) zd_9_1 rfl (Nat.le_of_ble_eq_true rfl)]
  rw [zs_aload_n (ls := [some (.ref 53), some (.int 3456)]) zd_9_4 rfl]
  rw [zs_iload_n (ls := [some (.ref 53), some (.int 3456)]) zd_9_5 rfl]
  rw [zs_iconst (z := 0) zd_9_6 (by decide)]
  rw [zs_max (r := [.ref 53]) zd_9_7 rfl (Nat.le_of_ble_eq_true rfl)]
  rw [show (if (3456 : Int32) < 0 then (0 : Int32) else 3456) = 3456 by decide]
  rw [zs_newarray (n := 54) (h9 := by decide) (x := 3456) (Z := zK L) (m := 3456) zd_9_10 rfl ⟨⟨by decide, by decide⟩, rfl⟩ (by decide) rfl hf]
  have hf1 := zx_fr.le (m := 55) hf (by decide)
  rw [zs_putR (n := 55) (K := zx_pk (zK L) 55) (q := 53) (p := 54) zd_9_12 rfl rfl (by decide +kernel) rfl (by decide)]
  have hf2 := zx_fr.upR (p := 53) (i := 0) (x := some 54) hf1 (by decide)
  refine ⟨(zs_return zd_9_15 rfl).trans ?_, hf2⟩
  simp only [Nat.add_assoc, Nat.reduceAdd]
set_option maxRecDepth 20000 in
/-- RX4.<init> -/
theorem zi_11 (L : Nat) {a b : Nat} {σ : Nat → Nat → Int32} {τ : Nat → Nat → Int64} {ρ : Nat → Nat → Option Nat} (hf : zx_fr 56 σ τ ρ) : zx_go 1 9 0 [some (.ref 55), some (.int 3456)] [] ((56, a, b), zx_pk (zK L) 56, σ, τ, ρ) = some (none, ((57, a + 1, b + 3456), zx_pk (zK L) 57, σ, τ, (zx_up ρ 55 0 (some 56)))) ∧ zx_fr 57 σ τ (zx_up ρ 55 0 (some 56)) := by
  rw [zs_aload_n (ls := [some (.ref 55), some (.int 3456)]) zd_9_0 rfl]
  rw [zs_obj (r := []) zd_9_1 rfl (Nat.le_of_ble_eq_true rfl)]
  rw [zs_aload_n (ls := [some (.ref 55), some (.int 3456)]) zd_9_4 rfl]
  rw [zs_iload_n (ls := [some (.ref 55), some (.int 3456)]) zd_9_5 rfl]
  rw [zs_iconst (z := 0) zd_9_6 (by decide)]
  rw [zs_max (r := [.ref 55]) zd_9_7 rfl (Nat.le_of_ble_eq_true rfl)]
  rw [show (if (3456 : Int32) < 0 then (0 : Int32) else 3456) = 3456 by decide]
  rw [zs_newarray (n := 56) (h9 := by decide) (x := 3456) (Z := zK L) (m := 3456) zd_9_10 rfl ⟨⟨by decide, by decide⟩, rfl⟩ (by decide) rfl hf]
  have hf1 := zx_fr.le (m := 57) hf (by decide)
  rw [zs_putR (n := 57) (K := zx_pk (zK L) 57) (q := 55) (p := 56) zd_9_12 rfl rfl (by decide +kernel) rfl (by decide)]
  have hf2 := zx_fr.upR (p := 55) (i := 0) (x := some 56) hf1 (by decide)
  refine ⟨(zs_return zd_9_15 rfl).trans ?_, hf2⟩
  simp only [Nat.add_assoc, Nat.reduceAdd]
set_option maxRecDepth 20000 in
/-- RX4.<init> -/
theorem zi_12 (L : Nat) {a b : Nat} {σ : Nat → Nat → Int32} {τ : Nat → Nat → Int64} {ρ : Nat → Nat → Option Nat} (hf : zx_fr 60 σ τ ρ) : zx_go 1 9 0 [some (.ref 59), some (.int 4000)] [] ((60, a, b), zx_pk (zK L) 60, σ, τ, ρ) = some (none, ((61, a + 1, b + 4000), zx_pk (zK L) 61, σ, τ, (zx_up ρ 59 0 (some 60)))) ∧ zx_fr 61 σ τ (zx_up ρ 59 0 (some 60)) := by
  rw [zs_aload_n (ls := [some (.ref 59), some (.int 4000)]) zd_9_0 rfl]
  rw [zs_obj (r := []) zd_9_1 rfl (Nat.le_of_ble_eq_true rfl)]
  rw [zs_aload_n (ls := [some (.ref 59), some (.int 4000)]) zd_9_4 rfl]
  rw [zs_iload_n (ls := [some (.ref 59), some (.int 4000)]) zd_9_5 rfl]
  rw [zs_iconst (z := 0) zd_9_6 (by decide)]
  rw [zs_max (r := [.ref 59]) zd_9_7 rfl (Nat.le_of_ble_eq_true rfl)]
  rw [show (if (4000 : Int32) < 0 then (0 : Int32) else 4000) = 4000 by decide]
  rw [zs_newarray (n := 60) (h9 := by decide) (x := 4000) (Z := zK L) (m := 4000) zd_9_10 rfl ⟨⟨by decide, by decide⟩, rfl⟩ (by decide) rfl hf]
  have hf1 := zx_fr.le (m := 61) hf (by decide)
  rw [zs_putR (n := 61) (K := zx_pk (zK L) 61) (q := 59) (p := 60) zd_9_12 rfl rfl (by decide +kernel) rfl (by decide)]
  have hf2 := zx_fr.upR (p := 59) (i := 0) (x := some 60) hf1 (by decide)
  refine ⟨(zs_return zd_9_15 rfl).trans ?_, hf2⟩
  simp only [Nat.add_assoc, Nat.reduceAdd]
set_option maxRecDepth 20000 in
/-- RX4.<init> -/
theorem zi_13 (L : Nat) {a b : Nat} {σ : Nat → Nat → Int32} {τ : Nat → Nat → Int64} {ρ : Nat → Nat → Option Nat} (hf : zx_fr 62 σ τ ρ) : zx_go 1 9 0 [some (.ref 61), some (.int 4000)] [] ((62, a, b), zx_pk (zK L) 62, σ, τ, ρ) = some (none, ((63, a + 1, b + 4000), zx_pk (zK L) 63, σ, τ, (zx_up ρ 61 0 (some 62)))) ∧ zx_fr 63 σ τ (zx_up ρ 61 0 (some 62)) := by
  rw [zs_aload_n (ls := [some (.ref 61), some (.int 4000)]) zd_9_0 rfl]
  rw [zs_obj (r := []) zd_9_1 rfl (Nat.le_of_ble_eq_true rfl)]
  rw [zs_aload_n (ls := [some (.ref 61), some (.int 4000)]) zd_9_4 rfl]
  rw [zs_iload_n (ls := [some (.ref 61), some (.int 4000)]) zd_9_5 rfl]
  rw [zs_iconst (z := 0) zd_9_6 (by decide)]
  rw [zs_max (r := [.ref 61]) zd_9_7 rfl (Nat.le_of_ble_eq_true rfl)]
  rw [show (if (4000 : Int32) < 0 then (0 : Int32) else 4000) = 4000 by decide]
  rw [zs_newarray (n := 62) (h9 := by decide) (x := 4000) (Z := zK L) (m := 4000) zd_9_10 rfl ⟨⟨by decide, by decide⟩, rfl⟩ (by decide) rfl hf]
  have hf1 := zx_fr.le (m := 63) hf (by decide)
  rw [zs_putR (n := 63) (K := zx_pk (zK L) 63) (q := 61) (p := 62) zd_9_12 rfl rfl (by decide +kernel) rfl (by decide)]
  have hf2 := zx_fr.upR (p := 61) (i := 0) (x := some 62) hf1 (by decide)
  refine ⟨(zs_return zd_9_15 rfl).trans ?_, hf2⟩
  simp only [Nat.add_assoc, Nat.reduceAdd]
set_option maxRecDepth 20000 in
/-- RX5.<init> -/
theorem zi_14 (L : Nat) {a b : Nat} {σ : Nat → Nat → Int32} {τ : Nat → Nat → Int64} {ρ : Nat → Nat → Option Nat} (hf : zx_fr 59 σ τ ρ) : zx_go 2 10 0 [some (.ref 58), some (.ref 35)] [] ((59, a, b), zx_pk (zK L) 59, σ, τ, ρ) = some (none, ((64, a + 5, b + 16196), zx_pk (zK L) 64, σ, τ, (zx_up (zx_up (zx_up (zx_up (zx_up (zx_up ρ 59 0 (some 60)) 58 1 (some 59)) 61 0 (some 62)) 58 2 (some 61)) 58 3 (some 63)) 58 0 (some 35)))) ∧ zx_fr 64 σ τ (zx_up (zx_up (zx_up (zx_up (zx_up (zx_up ρ 59 0 (some 60)) 58 1 (some 59)) 61 0 (some 62)) 58 2 (some 61)) 58 3 (some 63)) 58 0 (some 35)) := by
  rw [zs_aload_n (ls := [some (.ref 58), some (.ref 35)]) zd_10_0 rfl]
  rw [zs_obj (r := []) zd_10_1 rfl (Nat.le_of_ble_eq_true rfl)]
  rw [zs_aload_n (ls := [some (.ref 58), some (.ref 35)]) zd_10_4 rfl]
  rw [zs_new (n := 59) (h9 := by decide) (c := 4) (m := 2) (Z := zK L) zd_10_5 rfl rfl rfl hf]
  have hf1 := zx_fr.le (m := 60) hf (by decide)
  rw [zs_dup (a := .ref 59) zd_10_8 rfl]
  rw [zs_sipush (z := 4000) zd_10_9 (by decide)]
  rw [zs_callIv (st := [.int 4000, .ref 59, .ref 59, .ref 58]) (e := 1) (as := [.ref 59, .int 4000]) (rest := [.ref 59, .ref 58]) zd_10_12 rfl (by decide +kernel) (by decide) rfl rfl (Nat.le_of_ble_eq_true rfl) rfl (Nat.le_of_ble_eq_true rfl) (by decide) (zi_12 L hf1).1]
  have hfc1 := (zi_12 L (a := 0) (b := 0) hf1).2
  rw [zs_putR (n := 61) (K := zx_pk (zK L) 61) (q := 58) (p := 59) zd_10_15 rfl rfl (by decide +kernel) rfl (by decide)]
  have hf3 := zx_fr.upR (p := 58) (i := 1) (x := some 59) hfc1 (by decide)
  rw [zs_aload_n (ls := [some (.ref 58), some (.ref 35)]) zd_10_18 rfl]
  rw [zs_new (n := 61) (h9 := by decide) (c := 4) (m := 2) (Z := zK L) zd_10_19 rfl rfl rfl hf3]
  have hf4 := zx_fr.le (m := 62) hf3 (by decide)
  rw [zs_dup (a := .ref 61) zd_10_22 rfl]
  rw [zs_sipush (z := 4000) zd_10_23 (by decide)]
  rw [zs_callIv (st := [.int 4000, .ref 61, .ref 61, .ref 58]) (e := 1) (as := [.ref 61, .int 4000]) (rest := [.ref 61, .ref 58]) zd_10_26 rfl (by decide +kernel) (by decide) rfl rfl (Nat.le_of_ble_eq_true rfl) rfl (Nat.le_of_ble_eq_true rfl) (by decide) (zi_13 L hf4).1]
  have hfc4 := (zi_13 L (a := 0) (b := 0) hf4).2
  rw [zs_putR (n := 63) (K := zx_pk (zK L) 63) (q := 58) (p := 61) zd_10_29 rfl rfl (by decide +kernel) rfl (by decide)]
  have hf6 := zx_fr.upR (p := 58) (i := 2) (x := some 61) hfc4 (by decide)
  rw [zs_aload_n (ls := [some (.ref 58), some (.ref 35)]) zd_10_32 rfl]
  rw [zs_sipush (z := 8192) zd_10_33 (by decide)]
  rw [zs_newarray (n := 63) (h9 := by decide) (x := 8192) (Z := zK L) (m := 8192) zd_10_36 rfl ⟨⟨by decide, by decide⟩, rfl⟩ (by decide) rfl hf6]
  have hf7 := zx_fr.le (m := 64) hf6 (by decide)
  rw [zs_putR (n := 64) (K := zx_pk (zK L) 64) (q := 58) (p := 63) zd_10_38 rfl rfl (by decide +kernel) rfl (by decide)]
  have hf8 := zx_fr.upR (p := 58) (i := 3) (x := some 63) hf7 (by decide)
  rw [zs_aload_n (ls := [some (.ref 58), some (.ref 35)]) zd_10_41 rfl]
  rw [zs_aload_n (ls := [some (.ref 58), some (.ref 35)]) zd_10_42 rfl]
  rw [zs_putR (n := 64) (K := zx_pk (zK L) 64) (q := 58) (p := 35) zd_10_43 rfl rfl (by decide +kernel) rfl (by decide)]
  have hf9 := zx_fr.upR (p := 58) (i := 0) (x := some 35) hf8 (by decide)
  refine ⟨(zs_return zd_10_46 rfl).trans ?_, hf9⟩
  simp only [Nat.add_assoc, Nat.reduceAdd]
set_option maxRecDepth 20000 in
/-- RX0.<init> -/
theorem zi_15 (L : Nat) {a b : Nat} {σ : Nat → Nat → Int32} {τ : Nat → Nat → Int64} {ρ : Nat → Nat → Option Nat} (hf : zx_fr 47 σ τ ρ) : zx_go 3 8 0 [some (.ref 46), some (.ref 4), some (.ref 35)] [] ((47, a, b), zx_pk (zK L) 47, σ, τ, ρ) = some (none, ((64, a + 17, b + 44338), zx_pk (zK L) 64, σ, τ, (zx_up (zx_up (zx_up (zx_up (zx_up (zx_up (zx_up (zx_up (zx_up (zx_up (zx_up (zx_up (zx_up (zx_up (zx_up (zx_up (zx_up (zx_up (zx_up (zx_up ρ 47 0 (some 48)) 46 2 (some 47)) 49 0 (some 50)) 46 3 (some 49)) 51 0 (some 52)) 46 4 (some 51)) 53 0 (some 54)) 46 5 (some 53)) 55 0 (some 56)) 46 6 (some 55)) 46 8 (some 57)) 46 0 (some 4)) 46 1 (some 35)) 59 0 (some 60)) 58 1 (some 59)) 61 0 (some 62)) 58 2 (some 61)) 58 3 (some 63)) 58 0 (some 35)) 46 7 (some 58)))) ∧ zx_fr 64 σ τ (zx_up (zx_up (zx_up (zx_up (zx_up (zx_up (zx_up (zx_up (zx_up (zx_up (zx_up (zx_up (zx_up (zx_up (zx_up (zx_up (zx_up (zx_up (zx_up (zx_up ρ 47 0 (some 48)) 46 2 (some 47)) 49 0 (some 50)) 46 3 (some 49)) 51 0 (some 52)) 46 4 (some 51)) 53 0 (some 54)) 46 5 (some 53)) 55 0 (some 56)) 46 6 (some 55)) 46 8 (some 57)) 46 0 (some 4)) 46 1 (some 35)) 59 0 (some 60)) 58 1 (some 59)) 61 0 (some 62)) 58 2 (some 61)) 58 3 (some 63)) 58 0 (some 35)) 46 7 (some 58)) := by
  rw [zs_aload_n (ls := [some (.ref 46), some (.ref 4), some (.ref 35)]) zd_8_0 rfl]
  rw [zs_obj (r := []) zd_8_1 rfl (Nat.le_of_ble_eq_true rfl)]
  rw [zs_aload_n (ls := [some (.ref 46), some (.ref 4), some (.ref 35)]) zd_8_4 rfl]
  rw [zs_new (n := 47) (h9 := by decide) (c := 4) (m := 2) (Z := zK L) zd_8_5 rfl rfl rfl hf]
  have hf1 := zx_fr.le (m := 48) hf (by decide)
  rw [zs_dup (a := .ref 47) zd_8_8 rfl]
  rw [zs_sipush (z := 4000) zd_8_9 (by decide)]
  rw [zs_callIv (st := [.int 4000, .ref 47, .ref 47, .ref 46]) (e := 1) (as := [.ref 47, .int 4000]) (rest := [.ref 47, .ref 46]) zd_8_12 rfl (by decide +kernel) (by decide) rfl rfl (Nat.le_of_ble_eq_true rfl) rfl (Nat.le_of_ble_eq_true rfl) (by decide) (zi_7 L hf1).1]
  have hfc1 := (zi_7 L (a := 0) (b := 0) hf1).2
  rw [zs_putR (n := 49) (K := zx_pk (zK L) 49) (q := 46) (p := 47) zd_8_15 rfl rfl (by decide +kernel) rfl (by decide)]
  have hf3 := zx_fr.upR (p := 46) (i := 2) (x := some 47) hfc1 (by decide)
  rw [zs_aload_n (ls := [some (.ref 46), some (.ref 4), some (.ref 35)]) zd_8_18 rfl]
  rw [zs_new (n := 49) (h9 := by decide) (c := 4) (m := 2) (Z := zK L) zd_8_19 rfl rfl rfl hf3]
  have hf4 := zx_fr.le (m := 50) hf3 (by decide)
  rw [zs_dup (a := .ref 49) zd_8_22 rfl]
  rw [zs_sipush (z := 4000) zd_8_23 (by decide)]
  rw [zs_callIv (st := [.int 4000, .ref 49, .ref 49, .ref 46]) (e := 1) (as := [.ref 49, .int 4000]) (rest := [.ref 49, .ref 46]) zd_8_26 rfl (by decide +kernel) (by decide) rfl rfl (Nat.le_of_ble_eq_true rfl) rfl (Nat.le_of_ble_eq_true rfl) (by decide) (zi_8 L hf4).1]
  have hfc4 := (zi_8 L (a := 0) (b := 0) hf4).2
  rw [zs_putR (n := 51) (K := zx_pk (zK L) 51) (q := 46) (p := 49) zd_8_29 rfl rfl (by decide +kernel) rfl (by decide)]
  have hf6 := zx_fr.upR (p := 46) (i := 3) (x := some 49) hfc4 (by decide)
  rw [zs_aload_n (ls := [some (.ref 46), some (.ref 4), some (.ref 35)]) zd_8_32 rfl]
  rw [zs_new (n := 51) (h9 := by decide) (c := 4) (m := 2) (Z := zK L) zd_8_33 rfl rfl rfl hf6]
  have hf7 := zx_fr.le (m := 52) hf6 (by decide)
  rw [zs_dup (a := .ref 51) zd_8_36 rfl]
  rw [zs_sipush (z := 4000) zd_8_37 (by decide)]
  rw [zs_callIv (st := [.int 4000, .ref 51, .ref 51, .ref 46]) (e := 1) (as := [.ref 51, .int 4000]) (rest := [.ref 51, .ref 46]) zd_8_40 rfl (by decide +kernel) (by decide) rfl rfl (Nat.le_of_ble_eq_true rfl) rfl (Nat.le_of_ble_eq_true rfl) (by decide) (zi_9 L hf7).1]
  have hfc7 := (zi_9 L (a := 0) (b := 0) hf7).2
  rw [zs_putR (n := 53) (K := zx_pk (zK L) 53) (q := 46) (p := 51) zd_8_43 rfl rfl (by decide +kernel) rfl (by decide)]
  have hf9 := zx_fr.upR (p := 46) (i := 4) (x := some 51) hfc7 (by decide)
  rw [zs_aload_n (ls := [some (.ref 46), some (.ref 4), some (.ref 35)]) zd_8_46 rfl]
  rw [zs_new (n := 53) (h9 := by decide) (c := 4) (m := 2) (Z := zK L) zd_8_47 rfl rfl rfl hf9]
  have hf10 := zx_fr.le (m := 54) hf9 (by decide)
  rw [zs_dup (a := .ref 53) zd_8_50 rfl]
  rw [zs_sipush (z := 3456) zd_8_51 (by decide)]
  rw [zs_callIv (st := [.int 3456, .ref 53, .ref 53, .ref 46]) (e := 1) (as := [.ref 53, .int 3456]) (rest := [.ref 53, .ref 46]) zd_8_54 rfl (by decide +kernel) (by decide) rfl rfl (Nat.le_of_ble_eq_true rfl) rfl (Nat.le_of_ble_eq_true rfl) (by decide) (zi_10 L hf10).1]
  have hfc10 := (zi_10 L (a := 0) (b := 0) hf10).2
  rw [zs_putR (n := 55) (K := zx_pk (zK L) 55) (q := 46) (p := 53) zd_8_57 rfl rfl (by decide +kernel) rfl (by decide)]
  have hf12 := zx_fr.upR (p := 46) (i := 5) (x := some 53) hfc10 (by decide)
  rw [zs_aload_n (ls := [some (.ref 46), some (.ref 4), some (.ref 35)]) zd_8_60 rfl]
  rw [zs_new (n := 55) (h9 := by decide) (c := 4) (m := 2) (Z := zK L) zd_8_61 rfl rfl rfl hf12]
  have hf13 := zx_fr.le (m := 56) hf12 (by decide)
  rw [zs_dup (a := .ref 55) zd_8_64 rfl]
  rw [zs_sipush (z := 3456) zd_8_65 (by decide)]
  rw [zs_callIv (st := [.int 3456, .ref 55, .ref 55, .ref 46]) (e := 1) (as := [.ref 55, .int 3456]) (rest := [.ref 55, .ref 46]) zd_8_68 rfl (by decide +kernel) (by decide) rfl rfl (Nat.le_of_ble_eq_true rfl) rfl (Nat.le_of_ble_eq_true rfl) (by decide) (zi_11 L hf13).1]
  have hfc13 := (zi_11 L (a := 0) (b := 0) hf13).2
  rw [zs_putR (n := 57) (K := zx_pk (zK L) 57) (q := 46) (p := 55) zd_8_71 rfl rfl (by decide +kernel) rfl (by decide)]
  have hf15 := zx_fr.upR (p := 46) (i := 6) (x := some 55) hfc13 (by decide)
  rw [zs_aload_n (ls := [some (.ref 46), some (.ref 4), some (.ref 35)]) zd_8_74 rfl]
  rw [zs_sipush (z := 9216) zd_8_75 (by decide)]
  rw [zs_newarray (n := 57) (h9 := by decide) (x := 9216) (Z := zK L) (m := 9216) zd_8_78 rfl ⟨⟨by decide, by decide⟩, rfl⟩ (by decide) rfl hf15]
  have hf16 := zx_fr.le (m := 58) hf15 (by decide)
  rw [zs_putR (n := 58) (K := zx_pk (zK L) 58) (q := 46) (p := 57) zd_8_80 rfl rfl (by decide +kernel) rfl (by decide)]
  have hf17 := zx_fr.upR (p := 46) (i := 8) (x := some 57) hf16 (by decide)
  rw [zs_aload_n (ls := [some (.ref 46), some (.ref 4), some (.ref 35)]) zd_8_83 rfl]
  rw [zs_aload_n (ls := [some (.ref 46), some (.ref 4), some (.ref 35)]) zd_8_84 rfl]
  rw [zs_putR (n := 58) (K := zx_pk (zK L) 58) (q := 46) (p := 4) zd_8_85 rfl rfl (by decide +kernel) rfl (by decide)]
  have hf18 := zx_fr.upR (p := 46) (i := 0) (x := some 4) hf17 (by decide)
  rw [zs_aload_n (ls := [some (.ref 46), some (.ref 4), some (.ref 35)]) zd_8_88 rfl]
  rw [zs_aload_n (ls := [some (.ref 46), some (.ref 4), some (.ref 35)]) zd_8_89 rfl]
  rw [zs_putR (n := 58) (K := zx_pk (zK L) 58) (q := 46) (p := 35) zd_8_90 rfl rfl (by decide +kernel) rfl (by decide)]
  have hf19 := zx_fr.upR (p := 46) (i := 1) (x := some 35) hf18 (by decide)
  rw [zs_aload_n (ls := [some (.ref 46), some (.ref 4), some (.ref 35)]) zd_8_93 rfl]
  rw [zs_new (n := 58) (h9 := by decide) (c := 5) (m := 4) (Z := zK L) zd_8_94 rfl rfl rfl hf19]
  have hf20 := zx_fr.le (m := 59) hf19 (by decide)
  rw [zs_dup (a := .ref 58) zd_8_97 rfl]
  rw [zs_aload_n (ls := [some (.ref 46), some (.ref 4), some (.ref 35)]) zd_8_98 rfl]
  rw [zs_callIv (st := [.ref 35, .ref 58, .ref 58, .ref 46]) (e := 2) (as := [.ref 58, .ref 35]) (rest := [.ref 58, .ref 46]) zd_8_99 rfl (by decide +kernel) (by decide) rfl rfl (Nat.le_of_ble_eq_true rfl) rfl (Nat.le_of_ble_eq_true rfl) (by decide) (zi_14 L hf20).1]
  have hfc20 := (zi_14 L (a := 0) (b := 0) hf20).2
  rw [zs_putR (n := 64) (K := zx_pk (zK L) 64) (q := 46) (p := 58) zd_8_102 rfl rfl (by decide +kernel) rfl (by decide)]
  have hf22 := zx_fr.upR (p := 46) (i := 7) (x := some 58) hfc20 (by decide)
  refine ⟨(zs_return zd_8_105 rfl).trans ?_, hf22⟩
  simp only [Nat.add_assoc, Nat.reduceAdd]
set_option maxRecDepth 20000 in
/-- RX8.<init> -/
theorem zi_16 (L : Nat) {a b : Nat} {σ : Nat → Nat → Int32} {τ : Nat → Nat → Int64} {ρ : Nat → Nat → Option Nat} (hf : zx_fr 65 σ τ ρ) : zx_go 1 7 0 [some (.ref 64), some (.ref 4), some (.ref 35)] [] ((65, a, b), zx_pk (zK L) 65, σ, τ, ρ) = some (none, ((69, a + 4, b + 36192), zx_pk (zK L) 69, σ, τ, (zx_up (zx_up (zx_up (zx_up (zx_up (zx_up ρ 64 2 (some 65)) 64 3 (some 66)) 64 4 (some 67)) 64 5 (some 68)) 64 0 (some 4)) 64 1 (some 35)))) ∧ zx_fr 69 σ τ (zx_up (zx_up (zx_up (zx_up (zx_up (zx_up ρ 64 2 (some 65)) 64 3 (some 66)) 64 4 (some 67)) 64 5 (some 68)) 64 0 (some 4)) 64 1 (some 35)) := by
  rw [zs_aload_n (ls := [some (.ref 64), some (.ref 4), some (.ref 35)]) zd_7_0 rfl]
  rw [zs_obj (r := []) zd_7_1 rfl (Nat.le_of_ble_eq_true rfl)]
  rw [zs_aload_n (ls := [some (.ref 64), some (.ref 4), some (.ref 35)]) zd_7_4 rfl]
  rw [zs_sipush (z := 20000) zd_7_5 (by decide)]
  rw [zs_newarray (n := 65) (h9 := by decide) (x := 20000) (Z := zK L) (m := 20000) zd_7_8 rfl ⟨⟨by decide, by decide⟩, rfl⟩ (by decide) rfl hf]
  have hf1 := zx_fr.le (m := 66) hf (by decide)
  rw [zs_putR (n := 66) (K := zx_pk (zK L) 66) (q := 64) (p := 65) zd_7_10 rfl rfl (by decide +kernel) rfl (by decide)]
  have hf2 := zx_fr.upR (p := 64) (i := 2) (x := some 65) hf1 (by decide)
  rw [zs_aload_n (ls := [some (.ref 64), some (.ref 4), some (.ref 35)]) zd_7_13 rfl]
  rw [zs_sipush (z := 4000) zd_7_14 (by decide)]
  rw [zs_newarray (n := 66) (h9 := by decide) (x := 4000) (Z := zK L) (m := 4000) zd_7_17 rfl ⟨⟨by decide, by decide⟩, rfl⟩ (by decide) rfl hf2]
  have hf3 := zx_fr.le (m := 67) hf2 (by decide)
  rw [zs_putR (n := 67) (K := zx_pk (zK L) 67) (q := 64) (p := 66) zd_7_19 rfl rfl (by decide +kernel) rfl (by decide)]
  have hf4 := zx_fr.upR (p := 64) (i := 3) (x := some 66) hf3 (by decide)
  rw [zs_aload_n (ls := [some (.ref 64), some (.ref 4), some (.ref 35)]) zd_7_22 rfl]
  rw [zs_sipush (z := 4000) zd_7_23 (by decide)]
  rw [zs_newarray (n := 67) (h9 := by decide) (x := 4000) (Z := zK L) (m := 4000) zd_7_26 rfl ⟨⟨by decide, by decide⟩, rfl⟩ (by decide) rfl hf4]
  have hf5 := zx_fr.le (m := 68) hf4 (by decide)
  rw [zs_putR (n := 68) (K := zx_pk (zK L) 68) (q := 64) (p := 67) zd_7_28 rfl rfl (by decide +kernel) rfl (by decide)]
  have hf6 := zx_fr.upR (p := 64) (i := 4) (x := some 67) hf5 (by decide)
  rw [zs_aload_n (ls := [some (.ref 64), some (.ref 4), some (.ref 35)]) zd_7_31 rfl]
  rw [zs_sipush (z := 8192) zd_7_32 (by decide)]
  rw [zs_newarray (n := 68) (h9 := by decide) (x := 8192) (Z := zK L) (m := 8192) zd_7_35 rfl ⟨⟨by decide, by decide⟩, rfl⟩ (by decide) rfl hf6]
  have hf7 := zx_fr.le (m := 69) hf6 (by decide)
  rw [zs_putR (n := 69) (K := zx_pk (zK L) 69) (q := 64) (p := 68) zd_7_37 rfl rfl (by decide +kernel) rfl (by decide)]
  have hf8 := zx_fr.upR (p := 64) (i := 5) (x := some 68) hf7 (by decide)
  rw [zs_aload_n (ls := [some (.ref 64), some (.ref 4), some (.ref 35)]) zd_7_40 rfl]
  rw [zs_aload_n (ls := [some (.ref 64), some (.ref 4), some (.ref 35)]) zd_7_41 rfl]
  rw [zs_putR (n := 69) (K := zx_pk (zK L) 69) (q := 64) (p := 4) zd_7_42 rfl rfl (by decide +kernel) rfl (by decide)]
  have hf9 := zx_fr.upR (p := 64) (i := 0) (x := some 4) hf8 (by decide)
  rw [zs_aload_n (ls := [some (.ref 64), some (.ref 4), some (.ref 35)]) zd_7_45 rfl]
  rw [zs_aload_n (ls := [some (.ref 64), some (.ref 4), some (.ref 35)]) zd_7_46 rfl]
  rw [zs_putR (n := 69) (K := zx_pk (zK L) 69) (q := 64) (p := 35) zd_7_47 rfl rfl (by decide +kernel) rfl (by decide)]
  have hf10 := zx_fr.upR (p := 64) (i := 1) (x := some 35) hf9 (by decide)
  refine ⟨(zs_return zd_7_50 rfl).trans ?_, hf10⟩
  simp only [Nat.add_assoc, Nat.reduceAdd]
set_option maxRecDepth 20000 in
/-- RX4.<init> -/
theorem zi_17 (L : Nat) {a b : Nat} {σ : Nat → Nat → Int32} {τ : Nat → Nat → Int64} {ρ : Nat → Nat → Option Nat} (hf : zx_fr 71 σ τ ρ) : zx_go 1 9 0 [some (.ref 70), some (.int 4000)] [] ((71, a, b), zx_pk (zK L) 71, σ, τ, ρ) = some (none, ((72, a + 1, b + 4000), zx_pk (zK L) 72, σ, τ, (zx_up ρ 70 0 (some 71)))) ∧ zx_fr 72 σ τ (zx_up ρ 70 0 (some 71)) := by
  rw [zs_aload_n (ls := [some (.ref 70), some (.int 4000)]) zd_9_0 rfl]
  rw [zs_obj (r := []) zd_9_1 rfl (Nat.le_of_ble_eq_true rfl)]
  rw [zs_aload_n (ls := [some (.ref 70), some (.int 4000)]) zd_9_4 rfl]
  rw [zs_iload_n (ls := [some (.ref 70), some (.int 4000)]) zd_9_5 rfl]
  rw [zs_iconst (z := 0) zd_9_6 (by decide)]
  rw [zs_max (r := [.ref 70]) zd_9_7 rfl (Nat.le_of_ble_eq_true rfl)]
  rw [show (if (4000 : Int32) < 0 then (0 : Int32) else 4000) = 4000 by decide]
  rw [zs_newarray (n := 71) (h9 := by decide) (x := 4000) (Z := zK L) (m := 4000) zd_9_10 rfl ⟨⟨by decide, by decide⟩, rfl⟩ (by decide) rfl hf]
  have hf1 := zx_fr.le (m := 72) hf (by decide)
  rw [zs_putR (n := 72) (K := zx_pk (zK L) 72) (q := 70) (p := 71) zd_9_12 rfl rfl (by decide +kernel) rfl (by decide)]
  have hf2 := zx_fr.upR (p := 70) (i := 0) (x := some 71) hf1 (by decide)
  refine ⟨(zs_return zd_9_15 rfl).trans ?_, hf2⟩
  simp only [Nat.add_assoc, Nat.reduceAdd]
set_option maxRecDepth 20000 in
/-- RX4.<init> -/
theorem zi_18 (L : Nat) {a b : Nat} {σ : Nat → Nat → Int32} {τ : Nat → Nat → Int64} {ρ : Nat → Nat → Option Nat} (hf : zx_fr 73 σ τ ρ) : zx_go 1 9 0 [some (.ref 72), some (.int 4000)] [] ((73, a, b), zx_pk (zK L) 73, σ, τ, ρ) = some (none, ((74, a + 1, b + 4000), zx_pk (zK L) 74, σ, τ, (zx_up ρ 72 0 (some 73)))) ∧ zx_fr 74 σ τ (zx_up ρ 72 0 (some 73)) := by
  rw [zs_aload_n (ls := [some (.ref 72), some (.int 4000)]) zd_9_0 rfl]
  rw [zs_obj (r := []) zd_9_1 rfl (Nat.le_of_ble_eq_true rfl)]
  rw [zs_aload_n (ls := [some (.ref 72), some (.int 4000)]) zd_9_4 rfl]
  rw [zs_iload_n (ls := [some (.ref 72), some (.int 4000)]) zd_9_5 rfl]
  rw [zs_iconst (z := 0) zd_9_6 (by decide)]
  rw [zs_max (r := [.ref 72]) zd_9_7 rfl (Nat.le_of_ble_eq_true rfl)]
  rw [show (if (4000 : Int32) < 0 then (0 : Int32) else 4000) = 4000 by decide]
  rw [zs_newarray (n := 73) (h9 := by decide) (x := 4000) (Z := zK L) (m := 4000) zd_9_10 rfl ⟨⟨by decide, by decide⟩, rfl⟩ (by decide) rfl hf]
  have hf1 := zx_fr.le (m := 74) hf (by decide)
  rw [zs_putR (n := 74) (K := zx_pk (zK L) 74) (q := 72) (p := 73) zd_9_12 rfl rfl (by decide +kernel) rfl (by decide)]
  have hf2 := zx_fr.upR (p := 72) (i := 0) (x := some 73) hf1 (by decide)
  refine ⟨(zs_return zd_9_15 rfl).trans ?_, hf2⟩
  simp only [Nat.add_assoc, Nat.reduceAdd]
set_option maxRecDepth 20000 in
/-- RX5.<init> -/
theorem zi_19 (L : Nat) {a b : Nat} {σ : Nat → Nat → Int32} {τ : Nat → Nat → Int64} {ρ : Nat → Nat → Option Nat} (hf : zx_fr 70 σ τ ρ) : zx_go 2 10 0 [some (.ref 69), some (.ref 35)] [] ((70, a, b), zx_pk (zK L) 70, σ, τ, ρ) = some (none, ((75, a + 5, b + 16196), zx_pk (zK L) 75, σ, τ, (zx_up (zx_up (zx_up (zx_up (zx_up (zx_up ρ 70 0 (some 71)) 69 1 (some 70)) 72 0 (some 73)) 69 2 (some 72)) 69 3 (some 74)) 69 0 (some 35)))) ∧ zx_fr 75 σ τ (zx_up (zx_up (zx_up (zx_up (zx_up (zx_up ρ 70 0 (some 71)) 69 1 (some 70)) 72 0 (some 73)) 69 2 (some 72)) 69 3 (some 74)) 69 0 (some 35)) := by
  rw [zs_aload_n (ls := [some (.ref 69), some (.ref 35)]) zd_10_0 rfl]
  rw [zs_obj (r := []) zd_10_1 rfl (Nat.le_of_ble_eq_true rfl)]
  rw [zs_aload_n (ls := [some (.ref 69), some (.ref 35)]) zd_10_4 rfl]
  rw [zs_new (n := 70) (h9 := by decide) (c := 4) (m := 2) (Z := zK L) zd_10_5 rfl rfl rfl hf]
  have hf1 := zx_fr.le (m := 71) hf (by decide)
  rw [zs_dup (a := .ref 70) zd_10_8 rfl]
  rw [zs_sipush (z := 4000) zd_10_9 (by decide)]
  rw [zs_callIv (st := [.int 4000, .ref 70, .ref 70, .ref 69]) (e := 1) (as := [.ref 70, .int 4000]) (rest := [.ref 70, .ref 69]) zd_10_12 rfl (by decide +kernel) (by decide) rfl rfl (Nat.le_of_ble_eq_true rfl) rfl (Nat.le_of_ble_eq_true rfl) (by decide) (zi_17 L hf1).1]
  have hfc1 := (zi_17 L (a := 0) (b := 0) hf1).2
  rw [zs_putR (n := 72) (K := zx_pk (zK L) 72) (q := 69) (p := 70) zd_10_15 rfl rfl (by decide +kernel) rfl (by decide)]
  have hf3 := zx_fr.upR (p := 69) (i := 1) (x := some 70) hfc1 (by decide)
  rw [zs_aload_n (ls := [some (.ref 69), some (.ref 35)]) zd_10_18 rfl]
  rw [zs_new (n := 72) (h9 := by decide) (c := 4) (m := 2) (Z := zK L) zd_10_19 rfl rfl rfl hf3]
  have hf4 := zx_fr.le (m := 73) hf3 (by decide)
  rw [zs_dup (a := .ref 72) zd_10_22 rfl]
  rw [zs_sipush (z := 4000) zd_10_23 (by decide)]
  rw [zs_callIv (st := [.int 4000, .ref 72, .ref 72, .ref 69]) (e := 1) (as := [.ref 72, .int 4000]) (rest := [.ref 72, .ref 69]) zd_10_26 rfl (by decide +kernel) (by decide) rfl rfl (Nat.le_of_ble_eq_true rfl) rfl (Nat.le_of_ble_eq_true rfl) (by decide) (zi_18 L hf4).1]
  have hfc4 := (zi_18 L (a := 0) (b := 0) hf4).2
  rw [zs_putR (n := 74) (K := zx_pk (zK L) 74) (q := 69) (p := 72) zd_10_29 rfl rfl (by decide +kernel) rfl (by decide)]
  have hf6 := zx_fr.upR (p := 69) (i := 2) (x := some 72) hfc4 (by decide)
  rw [zs_aload_n (ls := [some (.ref 69), some (.ref 35)]) zd_10_32 rfl]
  rw [zs_sipush (z := 8192) zd_10_33 (by decide)]
  rw [zs_newarray (n := 74) (h9 := by decide) (x := 8192) (Z := zK L) (m := 8192) zd_10_36 rfl ⟨⟨by decide, by decide⟩, rfl⟩ (by decide) rfl hf6]
  have hf7 := zx_fr.le (m := 75) hf6 (by decide)
  rw [zs_putR (n := 75) (K := zx_pk (zK L) 75) (q := 69) (p := 74) zd_10_38 rfl rfl (by decide +kernel) rfl (by decide)]
  have hf8 := zx_fr.upR (p := 69) (i := 3) (x := some 74) hf7 (by decide)
  rw [zs_aload_n (ls := [some (.ref 69), some (.ref 35)]) zd_10_41 rfl]
  rw [zs_aload_n (ls := [some (.ref 69), some (.ref 35)]) zd_10_42 rfl]
  rw [zs_putR (n := 75) (K := zx_pk (zK L) 75) (q := 69) (p := 35) zd_10_43 rfl rfl (by decide +kernel) rfl (by decide)]
  have hf9 := zx_fr.upR (p := 69) (i := 0) (x := some 35) hf8 (by decide)
  refine ⟨(zs_return zd_10_46 rfl).trans ?_, hf9⟩
  simp only [Nat.add_assoc, Nat.reduceAdd]
set_option maxRecDepth 20000 in
/-- RX4.<init> -/
theorem zi_20 (L : Nat) {a b : Nat} {σ : Nat → Nat → Int32} {τ : Nat → Nat → Int64} {ρ : Nat → Nat → Option Nat} (hf : zx_fr 80 σ τ ρ) : zx_go 1 9 0 [some (.ref 79), some (.int 3456)] [] ((80, a, b), zx_pk (zK L) 80, σ, τ, ρ) = some (none, ((81, a + 1, b + 3456), zx_pk (zK L) 81, σ, τ, (zx_up ρ 79 0 (some 80)))) ∧ zx_fr 81 σ τ (zx_up ρ 79 0 (some 80)) := by
  rw [zs_aload_n (ls := [some (.ref 79), some (.int 3456)]) zd_9_0 rfl]
  rw [zs_obj (r := []) zd_9_1 rfl (Nat.le_of_ble_eq_true rfl)]
  rw [zs_aload_n (ls := [some (.ref 79), some (.int 3456)]) zd_9_4 rfl]
  rw [zs_iload_n (ls := [some (.ref 79), some (.int 3456)]) zd_9_5 rfl]
  rw [zs_iconst (z := 0) zd_9_6 (by decide)]
  rw [zs_max (r := [.ref 79]) zd_9_7 rfl (Nat.le_of_ble_eq_true rfl)]
  rw [show (if (3456 : Int32) < 0 then (0 : Int32) else 3456) = 3456 by decide]
  rw [zs_newarray (n := 80) (h9 := by decide) (x := 3456) (Z := zK L) (m := 3456) zd_9_10 rfl ⟨⟨by decide, by decide⟩, rfl⟩ (by decide) rfl hf]
  have hf1 := zx_fr.le (m := 81) hf (by decide)
  rw [zs_putR (n := 81) (K := zx_pk (zK L) 81) (q := 79) (p := 80) zd_9_12 rfl rfl (by decide +kernel) rfl (by decide)]
  have hf2 := zx_fr.upR (p := 79) (i := 0) (x := some 80) hf1 (by decide)
  refine ⟨(zs_return zd_9_15 rfl).trans ?_, hf2⟩
  simp only [Nat.add_assoc, Nat.reduceAdd]
set_option maxRecDepth 20000 in
/-- RX1.<init> -/
theorem zi_21 (L : Nat) {a b : Nat} {σ : Nat → Nat → Int32} {τ : Nat → Nat → Int64} {ρ : Nat → Nat → Option Nat} (hf : zx_fr 77 σ τ ρ) : zx_go 2 11 0 [some (.ref 76), some (.ref 4)] [] ((77, a, b), zx_pk (zK L) 77, σ, τ, ρ) = some (none, ((81, a + 4, b + 3478), zx_pk (zK L) 81, σ, τ, (zx_up (zx_up (zx_up (zx_up (zx_up ρ 76 1 (some 77)) 76 2 (some 78)) 79 0 (some 80)) 76 3 (some 79)) 76 0 (some 4)))) ∧ zx_fr 81 σ τ (zx_up (zx_up (zx_up (zx_up (zx_up ρ 76 1 (some 77)) 76 2 (some 78)) 79 0 (some 80)) 76 3 (some 79)) 76 0 (some 4)) := by
  rw [zs_aload_n (ls := [some (.ref 76), some (.ref 4)]) zd_11_0 rfl]
  rw [zs_obj (r := []) zd_11_1 rfl (Nat.le_of_ble_eq_true rfl)]
  rw [zs_aload_n (ls := [some (.ref 76), some (.ref 4)]) zd_11_4 rfl]
  rw [zs_bipush (z := 16) zd_11_5 (by decide)]
  rw [zs_newarray (n := 77) (h9 := by decide) (x := 16) (Z := zK L) (m := 16) zd_11_7 rfl ⟨⟨by decide, by decide⟩, rfl⟩ (by decide) rfl hf]
  have hf1 := zx_fr.le (m := 78) hf (by decide)
  rw [zs_putR (n := 78) (K := zx_pk (zK L) 78) (q := 76) (p := 77) zd_11_9 rfl rfl (by decide +kernel) rfl (by decide)]
  have hf2 := zx_fr.upR (p := 76) (i := 1) (x := some 77) hf1 (by decide)
  rw [zs_aload_n (ls := [some (.ref 76), some (.ref 4)]) zd_11_12 rfl]
  rw [zs_iconst (z := 4) zd_11_13 (by decide)]
  rw [zs_newarray (n := 78) (h9 := by decide) (x := 4) (Z := zK L) (m := 4) zd_11_14 rfl ⟨⟨by decide, by decide⟩, rfl⟩ (by decide) rfl hf2]
  have hf3 := zx_fr.le (m := 79) hf2 (by decide)
  rw [zs_putR (n := 79) (K := zx_pk (zK L) 79) (q := 76) (p := 78) zd_11_16 rfl rfl (by decide +kernel) rfl (by decide)]
  have hf4 := zx_fr.upR (p := 76) (i := 2) (x := some 78) hf3 (by decide)
  rw [zs_aload_n (ls := [some (.ref 76), some (.ref 4)]) zd_11_19 rfl]
  rw [zs_new (n := 79) (h9 := by decide) (c := 4) (m := 2) (Z := zK L) zd_11_20 rfl rfl rfl hf4]
  have hf5 := zx_fr.le (m := 80) hf4 (by decide)
  rw [zs_dup (a := .ref 79) zd_11_23 rfl]
  rw [zs_sipush (z := 3456) zd_11_24 (by decide)]
  rw [zs_callIv (st := [.int 3456, .ref 79, .ref 79, .ref 76]) (e := 1) (as := [.ref 79, .int 3456]) (rest := [.ref 79, .ref 76]) zd_11_27 rfl (by decide +kernel) (by decide) rfl rfl (Nat.le_of_ble_eq_true rfl) rfl (Nat.le_of_ble_eq_true rfl) (by decide) (zi_20 L hf5).1]
  have hfc5 := (zi_20 L (a := 0) (b := 0) hf5).2
  rw [zs_putR (n := 81) (K := zx_pk (zK L) 81) (q := 76) (p := 79) zd_11_30 rfl rfl (by decide +kernel) rfl (by decide)]
  have hf7 := zx_fr.upR (p := 76) (i := 3) (x := some 79) hfc5 (by decide)
  rw [zs_aload_n (ls := [some (.ref 76), some (.ref 4)]) zd_11_33 rfl]
  rw [zs_aload_n (ls := [some (.ref 76), some (.ref 4)]) zd_11_34 rfl]
  rw [zs_putR (n := 81) (K := zx_pk (zK L) 81) (q := 76) (p := 4) zd_11_35 rfl rfl (by decide +kernel) rfl (by decide)]
  have hf8 := zx_fr.upR (p := 76) (i := 0) (x := some 4) hf7 (by decide)
  refine ⟨(zs_return zd_11_38 rfl).trans ?_, hf8⟩
  simp only [Nat.add_assoc, Nat.reduceAdd]
set_option maxRecDepth 20000 in
/-- RX11.<init> -/
theorem zi_22 (L : Nat) {a b : Nat} {σ : Nat → Nat → Int32} {τ : Nat → Nat → Int64} {ρ : Nat → Nat → Option Nat} (hf : zx_fr 3 σ τ ρ) : zx_go 4 0 0 [some (.ref 2)] [] ((3, a, b), zx_pk (zK L) 3, σ, τ, ρ) = some (none, ((82, a + 79, b + 147777), zx_pk (zK L) 82, (zx_up (zx_up (zx_up (zx_up (zx_up (zx_up σ 7 (Int32.toNatClampNeg 96) (-1)) 8 (Int32.toNatClampNeg 96) (-1)) 9 (Int32.toNatClampNeg 96) (-1)) 10 (Int32.toNatClampNeg 96) (-1)) 12 (Int32.toNatClampNeg 96) (-1)) 2 16 (-1)), τ, (zx_up (zx_up (zx_up (zx_up (zx_up (zx_up (zx_up (zx_up (zx_up (zx_up (zx_up (zx_up (zx_up (zx_up (zx_up (zx_up (zx_up (zx_up (zx_up (zx_up (zx_up (zx_up (zx_up (zx_up (zx_up (zx_up (zx_up (zx_up (zx_up (zx_up (zx_up (zx_up (zx_up (zx_up (zx_up (zx_up (zx_up (zx_up (zx_up (zx_up (zx_up (zx_up (zx_up (zx_up (zx_up (zx_up (zx_up (zx_up (zx_up (zx_up (zx_up (zx_up (zx_up (zx_up (zx_up (zx_up (zx_up (zx_up (zx_up (zx_up (zx_up (zx_up (zx_up (zx_up (zx_up (zx_up (zx_up (zx_up (zx_up (zx_up (zx_up (zx_up (zx_up (zx_up (zx_up (zx_up (zx_up (zx_up (zx_up (zx_up (zx_up (zx_up (zx_up (zx_up (zx_up (zx_up (zx_up (zx_up (zx_up (zx_up (zx_up (zx_up ρ 2 0 (some 3)) 4 7 (some 5)) 4 8 (some 6)) 4 9 (some 7)) 4 10 (some 8)) 4 11 (some 9)) 4 12 (some 10)) 4 13 (some 11)) 4 14 (some 12)) 4 15 (some 13)) 4 16 (some 14)) 4 17 (some 15)) 4 18 (some 16)) 2 1 (some 4)) 18 0 (some 19)) 18 1 (some 20)) 18 2 (some 21)) 18 4 (some 22)) 17 2 (some 18)) 17 4 (some 23)) 17 5 (some 24)) 17 0 (some 4)) 25 1 (some 26)) 25 2 (some 27)) 25 3 (some 28)) 25 0 (some 3)) 17 1 (some 25)) 29 1 (some 30)) 29 2 (some 31)) 29 3 (some 32)) 29 4 (some 33)) 29 5 (some 34)) 29 0 (some 4)) 17 3 (some 29)) 2 2 (some 17)) 35 1 (some 36)) 35 2 (some 37)) 35 3 (some 38)) 35 4 (some 39)) 35 5 (some 40)) 35 0 (some 4)) 2 3 (some 35)) 41 2 (some 42)) 41 3 (some 43)) 41 4 (some 44)) 41 5 (some 45)) 41 0 (some 4)) 41 1 (some 35)) 2 4 (some 41)) 47 0 (some 48)) 46 2 (some 47)) 49 0 (some 50)) 46 3 (some 49)) 51 0 (some 52)) 46 4 (some 51)) 53 0 (some 54)) 46 5 (some 53)) 55 0 (some 56)) 46 6 (some 55)) 46 8 (some 57)) 46 0 (some 4)) 46 1 (some 35)) 59 0 (some 60)) 58 1 (some 59)) 61 0 (some 62)) 58 2 (some 61)) 58 3 (some 63)) 58 0 (some 35)) 46 7 (some 58)) 2 5 (some 46)) 64 2 (some 65)) 64 3 (some 66)) 64 4 (some 67)) 64 5 (some 68)) 64 0 (some 4)) 64 1 (some 35)) 2 6 (some 64)) 70 0 (some 71)) 69 1 (some 70)) 72 0 (some 73)) 69 2 (some 72)) 69 3 (some 74)) 69 0 (some 35)) 2 7 (some 69)) 2 8 (some 75)) 76 1 (some 77)) 76 2 (some 78)) 79 0 (some 80)) 76 3 (some 79)) 76 0 (some 4)) 2 9 (some 76)) 2 10 (some 81)))) ∧ zx_fr 82 (zx_up (zx_up (zx_up (zx_up (zx_up (zx_up σ 7 (Int32.toNatClampNeg 96) (-1)) 8 (Int32.toNatClampNeg 96) (-1)) 9 (Int32.toNatClampNeg 96) (-1)) 10 (Int32.toNatClampNeg 96) (-1)) 12 (Int32.toNatClampNeg 96) (-1)) 2 16 (-1)) τ (zx_up (zx_up (zx_up (zx_up (zx_up (zx_up (zx_up (zx_up (zx_up (zx_up (zx_up (zx_up (zx_up (zx_up (zx_up (zx_up (zx_up (zx_up (zx_up (zx_up (zx_up (zx_up (zx_up (zx_up (zx_up (zx_up (zx_up (zx_up (zx_up (zx_up (zx_up (zx_up (zx_up (zx_up (zx_up (zx_up (zx_up (zx_up (zx_up (zx_up (zx_up (zx_up (zx_up (zx_up (zx_up (zx_up (zx_up (zx_up (zx_up (zx_up (zx_up (zx_up (zx_up (zx_up (zx_up (zx_up (zx_up (zx_up (zx_up (zx_up (zx_up (zx_up (zx_up (zx_up (zx_up (zx_up (zx_up (zx_up (zx_up (zx_up (zx_up (zx_up (zx_up (zx_up (zx_up (zx_up (zx_up (zx_up (zx_up (zx_up (zx_up (zx_up (zx_up (zx_up (zx_up (zx_up (zx_up (zx_up (zx_up (zx_up (zx_up (zx_up ρ 2 0 (some 3)) 4 7 (some 5)) 4 8 (some 6)) 4 9 (some 7)) 4 10 (some 8)) 4 11 (some 9)) 4 12 (some 10)) 4 13 (some 11)) 4 14 (some 12)) 4 15 (some 13)) 4 16 (some 14)) 4 17 (some 15)) 4 18 (some 16)) 2 1 (some 4)) 18 0 (some 19)) 18 1 (some 20)) 18 2 (some 21)) 18 4 (some 22)) 17 2 (some 18)) 17 4 (some 23)) 17 5 (some 24)) 17 0 (some 4)) 25 1 (some 26)) 25 2 (some 27)) 25 3 (some 28)) 25 0 (some 3)) 17 1 (some 25)) 29 1 (some 30)) 29 2 (some 31)) 29 3 (some 32)) 29 4 (some 33)) 29 5 (some 34)) 29 0 (some 4)) 17 3 (some 29)) 2 2 (some 17)) 35 1 (some 36)) 35 2 (some 37)) 35 3 (some 38)) 35 4 (some 39)) 35 5 (some 40)) 35 0 (some 4)) 2 3 (some 35)) 41 2 (some 42)) 41 3 (some 43)) 41 4 (some 44)) 41 5 (some 45)) 41 0 (some 4)) 41 1 (some 35)) 2 4 (some 41)) 47 0 (some 48)) 46 2 (some 47)) 49 0 (some 50)) 46 3 (some 49)) 51 0 (some 52)) 46 4 (some 51)) 53 0 (some 54)) 46 5 (some 53)) 55 0 (some 56)) 46 6 (some 55)) 46 8 (some 57)) 46 0 (some 4)) 46 1 (some 35)) 59 0 (some 60)) 58 1 (some 59)) 61 0 (some 62)) 58 2 (some 61)) 58 3 (some 63)) 58 0 (some 35)) 46 7 (some 58)) 2 5 (some 46)) 64 2 (some 65)) 64 3 (some 66)) 64 4 (some 67)) 64 5 (some 68)) 64 0 (some 4)) 64 1 (some 35)) 2 6 (some 64)) 70 0 (some 71)) 69 1 (some 70)) 72 0 (some 73)) 69 2 (some 72)) 69 3 (some 74)) 69 0 (some 35)) 2 7 (some 69)) 2 8 (some 75)) 76 1 (some 77)) 76 2 (some 78)) 79 0 (some 80)) 76 3 (some 79)) 76 0 (some 4)) 2 9 (some 76)) 2 10 (some 81)) := by
  rw [zs_aload_n (ls := [some (.ref 2)]) zd_0_0 rfl]
  rw [zs_obj (r := []) zd_0_1 rfl (Nat.le_of_ble_eq_true rfl)]
  rw [zs_aload_n (ls := [some (.ref 2)]) zd_0_4 rfl]
  rw [zs_sipush (z := 1500) zd_0_5 (by decide)]
  rw [zs_newarray (n := 3) (h9 := by decide) (x := 1500) (Z := zK L) (m := 1500) zd_0_8 rfl ⟨⟨by decide, by decide⟩, rfl⟩ (by decide) rfl hf]
  have hf1 := zx_fr.le (m := 4) hf (by decide)
  rw [zs_putR (n := 4) (K := zx_pk (zK L) 4) (q := 2) (p := 3) zd_0_10 rfl rfl (by decide +kernel) rfl (by decide)]
  have hf2 := zx_fr.upR (p := 2) (i := 0) (x := some 3) hf1 (by decide)
  rw [zs_aload_n (ls := [some (.ref 2)]) zd_0_13 rfl]
  rw [zs_new (n := 4) (h9 := by decide) (c := 6) (m := 19) (Z := zK L) zd_0_14 rfl rfl rfl hf2]
  have hf3 := zx_fr.le (m := 5) hf2 (by decide)
  rw [zs_dup (a := .ref 4) zd_0_17 rfl]
  rw [zs_callIv (st := [.ref 4, .ref 4, .ref 2]) (e := 1) (as := [.ref 4]) (rest := [.ref 4, .ref 2]) zd_0_18 rfl (by decide +kernel) (by decide) rfl rfl (Nat.le_of_ble_eq_true rfl) rfl (Nat.le_of_ble_eq_true rfl) (by decide) (zi_0 L hf3).1]
  have hfc3 := (zi_0 L (a := 0) (b := 0) hf3).2
  rw [zs_putR (n := 17) (K := zx_pk (zK L) 17) (q := 2) (p := 4) zd_0_21 rfl rfl (by decide +kernel) rfl (by decide)]
  have hf5 := zx_fr.upR (p := 2) (i := 1) (x := some 4) hfc3 (by decide)
  rw [zs_aload_n (ls := [some (.ref 2)]) zd_0_24 rfl]
  rw [zs_new (n := 17) (h9 := by decide) (c := 7) (m := 8) (Z := zK L) zd_0_25 rfl rfl rfl hf5]
  have hf6 := zx_fr.le (m := 18) hf5 (by decide)
  rw [zs_dup (a := .ref 17) zd_0_28 rfl]
  rw [zs_aload_n (ls := [some (.ref 2)]) zd_0_29 rfl]
  rw [zs_getR (n := 18) (K := zx_pk (zK L) 18) (ρ := (zx_up (zx_up (zx_up (zx_up (zx_up (zx_up (zx_up (zx_up (zx_up (zx_up (zx_up (zx_up (zx_up (zx_up ρ 2 0 (some 3)) 4 7 (some 5)) 4 8 (some 6)) 4 9 (some 7)) 4 10 (some 8)) 4 11 (some 9)) 4 12 (some 10)) 4 13 (some 11)) 4 14 (some 12)) 4 15 (some 13)) 4 16 (some 14)) 4 17 (some 15)) 4 18 (some 16)) 2 1 (some 4))) (q := 2) (p := 3) zd_0_30 rfl rfl rfl (by decide) rfl]
  rw [zs_aload_n (ls := [some (.ref 2)]) zd_0_33 rfl]
  rw [zs_getR (n := 18) (K := zx_pk (zK L) 18) (ρ := (zx_up (zx_up (zx_up (zx_up (zx_up (zx_up (zx_up (zx_up (zx_up (zx_up (zx_up (zx_up (zx_up (zx_up ρ 2 0 (some 3)) 4 7 (some 5)) 4 8 (some 6)) 4 9 (some 7)) 4 10 (some 8)) 4 11 (some 9)) 4 12 (some 10)) 4 13 (some 11)) 4 14 (some 12)) 4 15 (some 13)) 4 16 (some 14)) 4 17 (some 15)) 4 18 (some 16)) 2 1 (some 4))) (q := 2) (p := 4) zd_0_34 rfl rfl rfl (by decide) rfl]
  rw [zs_callIv (st := [.ref 4, .ref 3, .ref 17, .ref 17, .ref 2]) (e := 2) (as := [.ref 17, .ref 3, .ref 4]) (rest := [.ref 17, .ref 2]) zd_0_37 rfl (by decide +kernel) (by decide) rfl rfl (Nat.le_of_ble_eq_true rfl) rfl (Nat.le_of_ble_eq_true rfl) (by decide) (zi_4 L hf6).1]
  have hfc6 := (zi_4 L (a := 0) (b := 0) hf6).2
  rw [zs_putR (n := 35) (K := zx_pk (zK L) 35) (q := 2) (p := 17) zd_0_40 rfl rfl (by decide +kernel) rfl (by decide)]
  have hf8 := zx_fr.upR (p := 2) (i := 2) (x := some 17) hfc6 (by decide)
  rw [zs_aload_n (ls := [some (.ref 2)]) zd_0_43 rfl]
  rw [zs_new (n := 35) (h9 := by decide) (c := 2) (m := 6) (Z := zK L) zd_0_44 rfl rfl rfl hf8]
  have hf9 := zx_fr.le (m := 36) hf8 (by decide)
  rw [zs_dup (a := .ref 35) zd_0_47 rfl]
  rw [zs_aload_n (ls := [some (.ref 2)]) zd_0_48 rfl]
  rw [zs_getR (n := 36) (K := zx_pk (zK L) 36) (ρ := (zx_up (zx_up (zx_up (zx_up (zx_up (zx_up (zx_up (zx_up (zx_up (zx_up (zx_up (zx_up (zx_up (zx_up (zx_up (zx_up (zx_up (zx_up (zx_up (zx_up (zx_up (zx_up (zx_up (zx_up (zx_up (zx_up (zx_up (zx_up (zx_up (zx_up (zx_up (zx_up (zx_up (zx_up (zx_up ρ 2 0 (some 3)) 4 7 (some 5)) 4 8 (some 6)) 4 9 (some 7)) 4 10 (some 8)) 4 11 (some 9)) 4 12 (some 10)) 4 13 (some 11)) 4 14 (some 12)) 4 15 (some 13)) 4 16 (some 14)) 4 17 (some 15)) 4 18 (some 16)) 2 1 (some 4)) 18 0 (some 19)) 18 1 (some 20)) 18 2 (some 21)) 18 4 (some 22)) 17 2 (some 18)) 17 4 (some 23)) 17 5 (some 24)) 17 0 (some 4)) 25 1 (some 26)) 25 2 (some 27)) 25 3 (some 28)) 25 0 (some 3)) 17 1 (some 25)) 29 1 (some 30)) 29 2 (some 31)) 29 3 (some 32)) 29 4 (some 33)) 29 5 (some 34)) 29 0 (some 4)) 17 3 (some 29)) 2 2 (some 17))) (q := 2) (p := 4) zd_0_49 rfl rfl rfl (by decide) rfl]
  rw [zs_callIv (st := [.ref 4, .ref 35, .ref 35, .ref 2]) (e := 1) (as := [.ref 35, .ref 4]) (rest := [.ref 35, .ref 2]) zd_0_52 rfl (by decide +kernel) (by decide) rfl rfl (Nat.le_of_ble_eq_true rfl) rfl (Nat.le_of_ble_eq_true rfl) (by decide) (zi_5 L hf9).1]
  have hfc9 := (zi_5 L (a := 0) (b := 0) hf9).2
  rw [zs_putR (n := 41) (K := zx_pk (zK L) 41) (q := 2) (p := 35) zd_0_55 rfl rfl (by decide +kernel) rfl (by decide)]
  have hf11 := zx_fr.upR (p := 2) (i := 3) (x := some 35) hfc9 (by decide)
  rw [zs_aload_n (ls := [some (.ref 2)]) zd_0_58 rfl]
  rw [zs_new (n := 41) (h9 := by decide) (c := 8) (m := 7) (Z := zK L) zd_0_59 rfl rfl rfl hf11]
  have hf12 := zx_fr.le (m := 42) hf11 (by decide)
  rw [zs_dup (a := .ref 41) zd_0_62 rfl]
  rw [zs_aload_n (ls := [some (.ref 2)]) zd_0_63 rfl]
  rw [zs_getR (n := 42) (K := zx_pk (zK L) 42) (ρ := (zx_up (zx_up (zx_up (zx_up (zx_up (zx_up (zx_up (zx_up (zx_up (zx_up (zx_up (zx_up (zx_up (zx_up (zx_up (zx_up (zx_up (zx_up (zx_up (zx_up (zx_up (zx_up (zx_up (zx_up (zx_up (zx_up (zx_up (zx_up (zx_up (zx_up (zx_up (zx_up (zx_up (zx_up (zx_up (zx_up (zx_up (zx_up (zx_up (zx_up (zx_up (zx_up ρ 2 0 (some 3)) 4 7 (some 5)) 4 8 (some 6)) 4 9 (some 7)) 4 10 (some 8)) 4 11 (some 9)) 4 12 (some 10)) 4 13 (some 11)) 4 14 (some 12)) 4 15 (some 13)) 4 16 (some 14)) 4 17 (some 15)) 4 18 (some 16)) 2 1 (some 4)) 18 0 (some 19)) 18 1 (some 20)) 18 2 (some 21)) 18 4 (some 22)) 17 2 (some 18)) 17 4 (some 23)) 17 5 (some 24)) 17 0 (some 4)) 25 1 (some 26)) 25 2 (some 27)) 25 3 (some 28)) 25 0 (some 3)) 17 1 (some 25)) 29 1 (some 30)) 29 2 (some 31)) 29 3 (some 32)) 29 4 (some 33)) 29 5 (some 34)) 29 0 (some 4)) 17 3 (some 29)) 2 2 (some 17)) 35 1 (some 36)) 35 2 (some 37)) 35 3 (some 38)) 35 4 (some 39)) 35 5 (some 40)) 35 0 (some 4)) 2 3 (some 35))) (q := 2) (p := 4) zd_0_64 rfl rfl rfl (by decide) rfl]
  rw [zs_aload_n (ls := [some (.ref 2)]) zd_0_67 rfl]
  rw [zs_getR (n := 42) (K := zx_pk (zK L) 42) (ρ := (zx_up (zx_up (zx_up (zx_up (zx_up (zx_up (zx_up (zx_up (zx_up (zx_up (zx_up (zx_up (zx_up (zx_up (zx_up (zx_up (zx_up (zx_up (zx_up (zx_up (zx_up (zx_up (zx_up (zx_up (zx_up (zx_up (zx_up (zx_up (zx_up (zx_up (zx_up (zx_up (zx_up (zx_up (zx_up (zx_up (zx_up (zx_up (zx_up (zx_up (zx_up (zx_up ρ 2 0 (some 3)) 4 7 (some 5)) 4 8 (some 6)) 4 9 (some 7)) 4 10 (some 8)) 4 11 (some 9)) 4 12 (some 10)) 4 13 (some 11)) 4 14 (some 12)) 4 15 (some 13)) 4 16 (some 14)) 4 17 (some 15)) 4 18 (some 16)) 2 1 (some 4)) 18 0 (some 19)) 18 1 (some 20)) 18 2 (some 21)) 18 4 (some 22)) 17 2 (some 18)) 17 4 (some 23)) 17 5 (some 24)) 17 0 (some 4)) 25 1 (some 26)) 25 2 (some 27)) 25 3 (some 28)) 25 0 (some 3)) 17 1 (some 25)) 29 1 (some 30)) 29 2 (some 31)) 29 3 (some 32)) 29 4 (some 33)) 29 5 (some 34)) 29 0 (some 4)) 17 3 (some 29)) 2 2 (some 17)) 35 1 (some 36)) 35 2 (some 37)) 35 3 (some 38)) 35 4 (some 39)) 35 5 (some 40)) 35 0 (some 4)) 2 3 (some 35))) (q := 2) (p := 35) zd_0_68 rfl rfl rfl (by decide) rfl]
  rw [zs_callIv (st := [.ref 35, .ref 4, .ref 41, .ref 41, .ref 2]) (e := 1) (as := [.ref 41, .ref 4, .ref 35]) (rest := [.ref 41, .ref 2]) zd_0_71 rfl (by decide +kernel) (by decide) rfl rfl (Nat.le_of_ble_eq_true rfl) rfl (Nat.le_of_ble_eq_true rfl) (by decide) (zi_6 L hf12).1]
  have hfc12 := (zi_6 L (a := 0) (b := 0) hf12).2
  rw [zs_putR (n := 46) (K := zx_pk (zK L) 46) (q := 2) (p := 41) zd_0_74 rfl rfl (by decide +kernel) rfl (by decide)]
  have hf14 := zx_fr.upR (p := 2) (i := 4) (x := some 41) hfc12 (by decide)
  rw [zs_aload_n (ls := [some (.ref 2)]) zd_0_77 rfl]
  rw [zs_new (n := 46) (h9 := by decide) (c := 0) (m := 9) (Z := zK L) zd_0_78 rfl rfl rfl hf14]
  have hf15 := zx_fr.le (m := 47) hf14 (by decide)
  rw [zs_dup (a := .ref 46) zd_0_81 rfl]
  rw [zs_aload_n (ls := [some (.ref 2)]) zd_0_82 rfl]
  rw [zs_getR (n := 47) (K := zx_pk (zK L) 47) (ρ := (zx_up (zx_up (zx_up (zx_up (zx_up (zx_up (zx_up (zx_up (zx_up (zx_up (zx_up (zx_up (zx_up (zx_up (zx_up (zx_up (zx_up (zx_up (zx_up (zx_up (zx_up (zx_up (zx_up (zx_up (zx_up (zx_up (zx_up (zx_up (zx_up (zx_up (zx_up (zx_up (zx_up (zx_up (zx_up (zx_up (zx_up (zx_up (zx_up (zx_up (zx_up (zx_up (zx_up (zx_up (zx_up (zx_up (zx_up (zx_up (zx_up ρ 2 0 (some 3)) 4 7 (some 5)) 4 8 (some 6)) 4 9 (some 7)) 4 10 (some 8)) 4 11 (some 9)) 4 12 (some 10)) 4 13 (some 11)) 4 14 (some 12)) 4 15 (some 13)) 4 16 (some 14)) 4 17 (some 15)) 4 18 (some 16)) 2 1 (some 4)) 18 0 (some 19)) 18 1 (some 20)) 18 2 (some 21)) 18 4 (some 22)) 17 2 (some 18)) 17 4 (some 23)) 17 5 (some 24)) 17 0 (some 4)) 25 1 (some 26)) 25 2 (some 27)) 25 3 (some 28)) 25 0 (some 3)) 17 1 (some 25)) 29 1 (some 30)) 29 2 (some 31)) 29 3 (some 32)) 29 4 (some 33)) 29 5 (some 34)) 29 0 (some 4)) 17 3 (some 29)) 2 2 (some 17)) 35 1 (some 36)) 35 2 (some 37)) 35 3 (some 38)) 35 4 (some 39)) 35 5 (some 40)) 35 0 (some 4)) 2 3 (some 35)) 41 2 (some 42)) 41 3 (some 43)) 41 4 (some 44)) 41 5 (some 45)) 41 0 (some 4)) 41 1 (some 35)) 2 4 (some 41))) (q := 2) (p := 4) zd_0_83 rfl rfl rfl (by decide) rfl]
  rw [zs_aload_n (ls := [some (.ref 2)]) zd_0_86 rfl]
  rw [zs_getR (n := 47) (K := zx_pk (zK L) 47) (ρ := (zx_up (zx_up (zx_up (zx_up (zx_up (zx_up (zx_up (zx_up (zx_up (zx_up (zx_up (zx_up (zx_up (zx_up (zx_up (zx_up (zx_up (zx_up (zx_up (zx_up (zx_up (zx_up (zx_up (zx_up (zx_up (zx_up (zx_up (zx_up (zx_up (zx_up (zx_up (zx_up (zx_up (zx_up (zx_up (zx_up (zx_up (zx_up (zx_up (zx_up (zx_up (zx_up (zx_up (zx_up (zx_up (zx_up (zx_up (zx_up (zx_up ρ 2 0 (some 3)) 4 7 (some 5)) 4 8 (some 6)) 4 9 (some 7)) 4 10 (some 8)) 4 11 (some 9)) 4 12 (some 10)) 4 13 (some 11)) 4 14 (some 12)) 4 15 (some 13)) 4 16 (some 14)) 4 17 (some 15)) 4 18 (some 16)) 2 1 (some 4)) 18 0 (some 19)) 18 1 (some 20)) 18 2 (some 21)) 18 4 (some 22)) 17 2 (some 18)) 17 4 (some 23)) 17 5 (some 24)) 17 0 (some 4)) 25 1 (some 26)) 25 2 (some 27)) 25 3 (some 28)) 25 0 (some 3)) 17 1 (some 25)) 29 1 (some 30)) 29 2 (some 31)) 29 3 (some 32)) 29 4 (some 33)) 29 5 (some 34)) 29 0 (some 4)) 17 3 (some 29)) 2 2 (some 17)) 35 1 (some 36)) 35 2 (some 37)) 35 3 (some 38)) 35 4 (some 39)) 35 5 (some 40)) 35 0 (some 4)) 2 3 (some 35)) 41 2 (some 42)) 41 3 (some 43)) 41 4 (some 44)) 41 5 (some 45)) 41 0 (some 4)) 41 1 (some 35)) 2 4 (some 41))) (q := 2) (p := 35) zd_0_87 rfl rfl rfl (by decide) rfl]
  rw [zs_callIv (st := [.ref 35, .ref 4, .ref 46, .ref 46, .ref 2]) (e := 3) (as := [.ref 46, .ref 4, .ref 35]) (rest := [.ref 46, .ref 2]) zd_0_90 rfl (by decide +kernel) (by decide) rfl rfl (Nat.le_of_ble_eq_true rfl) rfl (Nat.le_of_ble_eq_true rfl) (by decide) (zi_15 L hf15).1]
  have hfc15 := (zi_15 L (a := 0) (b := 0) hf15).2
  rw [zs_putR (n := 64) (K := zx_pk (zK L) 64) (q := 2) (p := 46) zd_0_93 rfl rfl (by decide +kernel) rfl (by decide)]
  have hf17 := zx_fr.upR (p := 2) (i := 5) (x := some 46) hfc15 (by decide)
  rw [zs_aload_n (ls := [some (.ref 2)]) zd_0_96 rfl]
  rw [zs_new (n := 64) (h9 := by decide) (c := 8) (m := 7) (Z := zK L) zd_0_97 rfl rfl rfl hf17]
  have hf18 := zx_fr.le (m := 65) hf17 (by decide)
  rw [zs_dup (a := .ref 64) zd_0_100 rfl]
  rw [zs_aload_n (ls := [some (.ref 2)]) zd_0_101 rfl]
  rw [zs_getR (n := 65) (K := zx_pk (zK L) 65) (ρ := (zx_up (zx_up (zx_up (zx_up (zx_up (zx_up (zx_up (zx_up (zx_up (zx_up (zx_up (zx_up (zx_up (zx_up (zx_up (zx_up (zx_up (zx_up (zx_up (zx_up (zx_up (zx_up (zx_up (zx_up (zx_up (zx_up (zx_up (zx_up (zx_up (zx_up (zx_up (zx_up (zx_up (zx_up (zx_up (zx_up (zx_up (zx_up (zx_up (zx_up (zx_up (zx_up (zx_up (zx_up (zx_up (zx_up (zx_up (zx_up (zx_up (zx_up (zx_up (zx_up (zx_up (zx_up (zx_up (zx_up (zx_up (zx_up (zx_up (zx_up (zx_up (zx_up (zx_up (zx_up (zx_up (zx_up (zx_up (zx_up (zx_up (zx_up ρ 2 0 (some 3)) 4 7 (some 5)) 4 8 (some 6)) 4 9 (some 7)) 4 10 (some 8)) 4 11 (some 9)) 4 12 (some 10)) 4 13 (some 11)) 4 14 (some 12)) 4 15 (some 13)) 4 16 (some 14)) 4 17 (some 15)) 4 18 (some 16)) 2 1 (some 4)) 18 0 (some 19)) 18 1 (some 20)) 18 2 (some 21)) 18 4 (some 22)) 17 2 (some 18)) 17 4 (some 23)) 17 5 (some 24)) 17 0 (some 4)) 25 1 (some 26)) 25 2 (some 27)) 25 3 (some 28)) 25 0 (some 3)) 17 1 (some 25)) 29 1 (some 30)) 29 2 (some 31)) 29 3 (some 32)) 29 4 (some 33)) 29 5 (some 34)) 29 0 (some 4)) 17 3 (some 29)) 2 2 (some 17)) 35 1 (some 36)) 35 2 (some 37)) 35 3 (some 38)) 35 4 (some 39)) 35 5 (some 40)) 35 0 (some 4)) 2 3 (some 35)) 41 2 (some 42)) 41 3 (some 43)) 41 4 (some 44)) 41 5 (some 45)) 41 0 (some 4)) 41 1 (some 35)) 2 4 (some 41)) 47 0 (some 48)) 46 2 (some 47)) 49 0 (some 50)) 46 3 (some 49)) 51 0 (some 52)) 46 4 (some 51)) 53 0 (some 54)) 46 5 (some 53)) 55 0 (some 56)) 46 6 (some 55)) 46 8 (some 57)) 46 0 (some 4)) 46 1 (some 35)) 59 0 (some 60)) 58 1 (some 59)) 61 0 (some 62)) 58 2 (some 61)) 58 3 (some 63)) 58 0 (some 35)) 46 7 (some 58)) 2 5 (some 46))) (q := 2) (p := 4) zd_0_102 rfl rfl rfl (by decide) rfl]
  rw [zs_aload_n (ls := [some (.ref 2)]) zd_0_105 rfl]
  rw [zs_getR (n := 65) (K := zx_pk (zK L) 65) (ρ := (zx_up (zx_up (zx_up (zx_up (zx_up (zx_up (zx_up (zx_up (zx_up (zx_up (zx_up (zx_up (zx_up (zx_up (zx_up (zx_up (zx_up (zx_up (zx_up (zx_up (zx_up (zx_up (zx_up (zx_up (zx_up (zx_up (zx_up (zx_up (zx_up (zx_up (zx_up (zx_up (zx_up (zx_up (zx_up (zx_up (zx_up (zx_up (zx_up (zx_up (zx_up (zx_up (zx_up (zx_up (zx_up (zx_up (zx_up (zx_up (zx_up (zx_up (zx_up (zx_up (zx_up (zx_up (zx_up (zx_up (zx_up (zx_up (zx_up (zx_up (zx_up (zx_up (zx_up (zx_up (zx_up (zx_up (zx_up (zx_up (zx_up (zx_up ρ 2 0 (some 3)) 4 7 (some 5)) 4 8 (some 6)) 4 9 (some 7)) 4 10 (some 8)) 4 11 (some 9)) 4 12 (some 10)) 4 13 (some 11)) 4 14 (some 12)) 4 15 (some 13)) 4 16 (some 14)) 4 17 (some 15)) 4 18 (some 16)) 2 1 (some 4)) 18 0 (some 19)) 18 1 (some 20)) 18 2 (some 21)) 18 4 (some 22)) 17 2 (some 18)) 17 4 (some 23)) 17 5 (some 24)) 17 0 (some 4)) 25 1 (some 26)) 25 2 (some 27)) 25 3 (some 28)) 25 0 (some 3)) 17 1 (some 25)) 29 1 (some 30)) 29 2 (some 31)) 29 3 (some 32)) 29 4 (some 33)) 29 5 (some 34)) 29 0 (some 4)) 17 3 (some 29)) 2 2 (some 17)) 35 1 (some 36)) 35 2 (some 37)) 35 3 (some 38)) 35 4 (some 39)) 35 5 (some 40)) 35 0 (some 4)) 2 3 (some 35)) 41 2 (some 42)) 41 3 (some 43)) 41 4 (some 44)) 41 5 (some 45)) 41 0 (some 4)) 41 1 (some 35)) 2 4 (some 41)) 47 0 (some 48)) 46 2 (some 47)) 49 0 (some 50)) 46 3 (some 49)) 51 0 (some 52)) 46 4 (some 51)) 53 0 (some 54)) 46 5 (some 53)) 55 0 (some 56)) 46 6 (some 55)) 46 8 (some 57)) 46 0 (some 4)) 46 1 (some 35)) 59 0 (some 60)) 58 1 (some 59)) 61 0 (some 62)) 58 2 (some 61)) 58 3 (some 63)) 58 0 (some 35)) 46 7 (some 58)) 2 5 (some 46))) (q := 2) (p := 35) zd_0_106 rfl rfl rfl (by decide) rfl]
  rw [zs_callIv (st := [.ref 35, .ref 4, .ref 64, .ref 64, .ref 2]) (e := 1) (as := [.ref 64, .ref 4, .ref 35]) (rest := [.ref 64, .ref 2]) zd_0_109 rfl (by decide +kernel) (by decide) rfl rfl (Nat.le_of_ble_eq_true rfl) rfl (Nat.le_of_ble_eq_true rfl) (by decide) (zi_16 L hf18).1]
  have hfc18 := (zi_16 L (a := 0) (b := 0) hf18).2
  rw [zs_putR (n := 69) (K := zx_pk (zK L) 69) (q := 2) (p := 64) zd_0_112 rfl rfl (by decide +kernel) rfl (by decide)]
  have hf20 := zx_fr.upR (p := 2) (i := 6) (x := some 64) hfc18 (by decide)
  rw [zs_aload_n (ls := [some (.ref 2)]) zd_0_115 rfl]
  rw [zs_new (n := 69) (h9 := by decide) (c := 5) (m := 4) (Z := zK L) zd_0_116 rfl rfl rfl hf20]
  have hf21 := zx_fr.le (m := 70) hf20 (by decide)
  rw [zs_dup (a := .ref 69) zd_0_119 rfl]
  rw [zs_aload_n (ls := [some (.ref 2)]) zd_0_120 rfl]
  rw [zs_getR (n := 70) (K := zx_pk (zK L) 70) (ρ := (zx_up (zx_up (zx_up (zx_up (zx_up (zx_up (zx_up (zx_up (zx_up (zx_up (zx_up (zx_up (zx_up (zx_up (zx_up (zx_up (zx_up (zx_up (zx_up (zx_up (zx_up (zx_up (zx_up (zx_up (zx_up (zx_up (zx_up (zx_up (zx_up (zx_up (zx_up (zx_up (zx_up (zx_up (zx_up (zx_up (zx_up (zx_up (zx_up (zx_up (zx_up (zx_up (zx_up (zx_up (zx_up (zx_up (zx_up (zx_up (zx_up (zx_up (zx_up (zx_up (zx_up (zx_up (zx_up (zx_up (zx_up (zx_up (zx_up (zx_up (zx_up (zx_up (zx_up (zx_up (zx_up (zx_up (zx_up (zx_up (zx_up (zx_up (zx_up (zx_up (zx_up (zx_up (zx_up (zx_up (zx_up ρ 2 0 (some 3)) 4 7 (some 5)) 4 8 (some 6)) 4 9 (some 7)) 4 10 (some 8)) 4 11 (some 9)) 4 12 (some 10)) 4 13 (some 11)) 4 14 (some 12)) 4 15 (some 13)) 4 16 (some 14)) 4 17 (some 15)) 4 18 (some 16)) 2 1 (some 4)) 18 0 (some 19)) 18 1 (some 20)) 18 2 (some 21)) 18 4 (some 22)) 17 2 (some 18)) 17 4 (some 23)) 17 5 (some 24)) 17 0 (some 4)) 25 1 (some 26)) 25 2 (some 27)) 25 3 (some 28)) 25 0 (some 3)) 17 1 (some 25)) 29 1 (some 30)) 29 2 (some 31)) 29 3 (some 32)) 29 4 (some 33)) 29 5 (some 34)) 29 0 (some 4)) 17 3 (some 29)) 2 2 (some 17)) 35 1 (some 36)) 35 2 (some 37)) 35 3 (some 38)) 35 4 (some 39)) 35 5 (some 40)) 35 0 (some 4)) 2 3 (some 35)) 41 2 (some 42)) 41 3 (some 43)) 41 4 (some 44)) 41 5 (some 45)) 41 0 (some 4)) 41 1 (some 35)) 2 4 (some 41)) 47 0 (some 48)) 46 2 (some 47)) 49 0 (some 50)) 46 3 (some 49)) 51 0 (some 52)) 46 4 (some 51)) 53 0 (some 54)) 46 5 (some 53)) 55 0 (some 56)) 46 6 (some 55)) 46 8 (some 57)) 46 0 (some 4)) 46 1 (some 35)) 59 0 (some 60)) 58 1 (some 59)) 61 0 (some 62)) 58 2 (some 61)) 58 3 (some 63)) 58 0 (some 35)) 46 7 (some 58)) 2 5 (some 46)) 64 2 (some 65)) 64 3 (some 66)) 64 4 (some 67)) 64 5 (some 68)) 64 0 (some 4)) 64 1 (some 35)) 2 6 (some 64))) (q := 2) (p := 35) zd_0_121 rfl rfl rfl (by decide) rfl]
  rw [zs_callIv (st := [.ref 35, .ref 69, .ref 69, .ref 2]) (e := 2) (as := [.ref 69, .ref 35]) (rest := [.ref 69, .ref 2]) zd_0_124 rfl (by decide +kernel) (by decide) rfl rfl (Nat.le_of_ble_eq_true rfl) rfl (Nat.le_of_ble_eq_true rfl) (by decide) (zi_19 L hf21).1]
  have hfc21 := (zi_19 L (a := 0) (b := 0) hf21).2
  rw [zs_putR (n := 75) (K := zx_pk (zK L) 75) (q := 2) (p := 69) zd_0_127 rfl rfl (by decide +kernel) rfl (by decide)]
  have hf23 := zx_fr.upR (p := 2) (i := 7) (x := some 69) hfc21 (by decide)
  rw [zs_aload_n (ls := [some (.ref 2)]) zd_0_130 rfl]
  rw [zs_bipush (z := 6) zd_0_131 (by decide)]
  rw [zs_newarray (n := 75) (h9 := by decide) (x := 6) (Z := zK L) (m := 6) zd_0_133 rfl ⟨⟨by decide, by decide⟩, rfl⟩ (by decide) rfl hf23]
  have hf24 := zx_fr.le (m := 76) hf23 (by decide)
  rw [zs_putR (n := 76) (K := zx_pk (zK L) 76) (q := 2) (p := 75) zd_0_135 rfl rfl (by decide +kernel) rfl (by decide)]
  have hf25 := zx_fr.upR (p := 2) (i := 8) (x := some 75) hf24 (by decide)
  rw [zs_aload_n (ls := [some (.ref 2)]) zd_0_138 rfl]
  rw [zs_new (n := 76) (h9 := by decide) (c := 1) (m := 6) (Z := zK L) zd_0_139 rfl rfl rfl hf25]
  have hf26 := zx_fr.le (m := 77) hf25 (by decide)
  rw [zs_dup (a := .ref 76) zd_0_142 rfl]
  rw [zs_aload_n (ls := [some (.ref 2)]) zd_0_143 rfl]
  rw [zs_getR (n := 77) (K := zx_pk (zK L) 77) (ρ := (zx_up (zx_up (zx_up (zx_up (zx_up (zx_up (zx_up (zx_up (zx_up (zx_up (zx_up (zx_up (zx_up (zx_up (zx_up (zx_up (zx_up (zx_up (zx_up (zx_up (zx_up (zx_up (zx_up (zx_up (zx_up (zx_up (zx_up (zx_up (zx_up (zx_up (zx_up (zx_up (zx_up (zx_up (zx_up (zx_up (zx_up (zx_up (zx_up (zx_up (zx_up (zx_up (zx_up (zx_up (zx_up (zx_up (zx_up (zx_up (zx_up (zx_up (zx_up (zx_up (zx_up (zx_up (zx_up (zx_up (zx_up (zx_up (zx_up (zx_up (zx_up (zx_up (zx_up (zx_up (zx_up (zx_up (zx_up (zx_up (zx_up (zx_up (zx_up (zx_up (zx_up (zx_up (zx_up (zx_up (zx_up (zx_up (zx_up (zx_up (zx_up (zx_up (zx_up (zx_up (zx_up ρ 2 0 (some 3)) 4 7 (some 5)) 4 8 (some 6)) 4 9 (some 7)) 4 10 (some 8)) 4 11 (some 9)) 4 12 (some 10)) 4 13 (some 11)) 4 14 (some 12)) 4 15 (some 13)) 4 16 (some 14)) 4 17 (some 15)) 4 18 (some 16)) 2 1 (some 4)) 18 0 (some 19)) 18 1 (some 20)) 18 2 (some 21)) 18 4 (some 22)) 17 2 (some 18)) 17 4 (some 23)) 17 5 (some 24)) 17 0 (some 4)) 25 1 (some 26)) 25 2 (some 27)) 25 3 (some 28)) 25 0 (some 3)) 17 1 (some 25)) 29 1 (some 30)) 29 2 (some 31)) 29 3 (some 32)) 29 4 (some 33)) 29 5 (some 34)) 29 0 (some 4)) 17 3 (some 29)) 2 2 (some 17)) 35 1 (some 36)) 35 2 (some 37)) 35 3 (some 38)) 35 4 (some 39)) 35 5 (some 40)) 35 0 (some 4)) 2 3 (some 35)) 41 2 (some 42)) 41 3 (some 43)) 41 4 (some 44)) 41 5 (some 45)) 41 0 (some 4)) 41 1 (some 35)) 2 4 (some 41)) 47 0 (some 48)) 46 2 (some 47)) 49 0 (some 50)) 46 3 (some 49)) 51 0 (some 52)) 46 4 (some 51)) 53 0 (some 54)) 46 5 (some 53)) 55 0 (some 56)) 46 6 (some 55)) 46 8 (some 57)) 46 0 (some 4)) 46 1 (some 35)) 59 0 (some 60)) 58 1 (some 59)) 61 0 (some 62)) 58 2 (some 61)) 58 3 (some 63)) 58 0 (some 35)) 46 7 (some 58)) 2 5 (some 46)) 64 2 (some 65)) 64 3 (some 66)) 64 4 (some 67)) 64 5 (some 68)) 64 0 (some 4)) 64 1 (some 35)) 2 6 (some 64)) 70 0 (some 71)) 69 1 (some 70)) 72 0 (some 73)) 69 2 (some 72)) 69 3 (some 74)) 69 0 (some 35)) 2 7 (some 69)) 2 8 (some 75))) (q := 2) (p := 4) zd_0_144 rfl rfl rfl (by decide) rfl]
  rw [zs_callIv (st := [.ref 4, .ref 76, .ref 76, .ref 2]) (e := 2) (as := [.ref 76, .ref 4]) (rest := [.ref 76, .ref 2]) zd_0_147 rfl (by decide +kernel) (by decide) rfl rfl (Nat.le_of_ble_eq_true rfl) rfl (Nat.le_of_ble_eq_true rfl) (by decide) (zi_21 L hf26).1]
  have hfc26 := (zi_21 L (a := 0) (b := 0) hf26).2
  rw [zs_putR (n := 81) (K := zx_pk (zK L) 81) (q := 2) (p := 76) zd_0_150 rfl rfl (by decide +kernel) rfl (by decide)]
  have hf28 := zx_fr.upR (p := 2) (i := 9) (x := some 76) hfc26 (by decide)
  rw [zs_aload_n (ls := [some (.ref 2)]) zd_0_153 rfl]
  rw [zs_sipush (z := 4000) zd_0_154 (by decide)]
  rw [zs_newarray (n := 81) (h9 := by decide) (x := 4000) (Z := zK L) (m := 4000) zd_0_157 rfl ⟨⟨by decide, by decide⟩, rfl⟩ (by decide) rfl hf28]
  have hf29 := zx_fr.le (m := 82) hf28 (by decide)
  rw [zs_putR (n := 82) (K := zx_pk (zK L) 82) (q := 2) (p := 81) zd_0_159 rfl rfl (by decide +kernel) rfl (by decide)]
  have hf30 := zx_fr.upR (p := 2) (i := 10) (x := some 81) hf29 (by decide)
  rw [zs_aload_n (ls := [some (.ref 2)]) zd_0_162 rfl]
  rw [zs_iconst (z := (-1)) zd_0_163 (by decide)]
  rw [zs_putI (n := 82) (K := zx_pk (zK L) 82) (q := 2) zd_0_164 rfl rfl (by decide +kernel) rfl (by decide)]
  have hf31 := zx_fr.up (p := 2) (i := 16) (x := (-1)) hf30 (by decide)
  refine ⟨(zs_return zd_0_167 rfl).trans ?_, hf31⟩
  simp only [Nat.add_assoc, Nat.reduceAdd]
set_option maxRecDepth 20000 in
/-- RX12.<init> -/
theorem zi_23 (L : Nat) {a b : Nat} {σ : Nat → Nat → Int32} {τ : Nat → Nat → Int64} {ρ : Nat → Nat → Option Nat} (hf : zx_fr 83 σ τ ρ) : zx_go 1 12 0 [some (.ref 82)] [] ((83, a, b), zx_pk (zK L) 83, σ, τ, ρ) = some (none, ((118, a + 35, b + 375046), zx_pk (zK L) 118, (zx_up σ 82 62 (-1)), τ, (zx_up (zx_up (zx_up (zx_up (zx_up (zx_up (zx_up (zx_up (zx_up (zx_up (zx_up (zx_up (zx_up (zx_up (zx_up (zx_up (zx_up (zx_up (zx_up (zx_up (zx_up (zx_up (zx_up (zx_up (zx_up (zx_up (zx_up (zx_up (zx_up (zx_up (zx_up (zx_up (zx_up (zx_up (zx_up ρ 82 1 (some 83)) 82 3 (some 84)) 82 13 (some 85)) 82 14 (some 86)) 82 20 (some 87)) 82 22 (some 88)) 82 23 (some 89)) 82 24 (some 90)) 82 26 (some 91)) 82 27 (some 92)) 82 28 (some 93)) 82 29 (some 94)) 82 30 (some 95)) 82 31 (some 96)) 82 32 (some 97)) 82 33 (some 98)) 82 34 (some 99)) 82 35 (some 100)) 82 36 (some 101)) 82 38 (some 102)) 82 42 (some 103)) 82 43 (some 104)) 82 44 (some 105)) 82 45 (some 106)) 82 47 (some 107)) 82 48 (some 108)) 82 49 (some 109)) 82 50 (some 110)) 82 55 (some 111)) 82 56 (some 112)) 82 57 (some 113)) 82 58 (some 114)) 82 59 (some 115)) 82 61 (some 116)) 82 63 (some 117)))) ∧ zx_fr 118 (zx_up σ 82 62 (-1)) τ (zx_up (zx_up (zx_up (zx_up (zx_up (zx_up (zx_up (zx_up (zx_up (zx_up (zx_up (zx_up (zx_up (zx_up (zx_up (zx_up (zx_up (zx_up (zx_up (zx_up (zx_up (zx_up (zx_up (zx_up (zx_up (zx_up (zx_up (zx_up (zx_up (zx_up (zx_up (zx_up (zx_up (zx_up (zx_up ρ 82 1 (some 83)) 82 3 (some 84)) 82 13 (some 85)) 82 14 (some 86)) 82 20 (some 87)) 82 22 (some 88)) 82 23 (some 89)) 82 24 (some 90)) 82 26 (some 91)) 82 27 (some 92)) 82 28 (some 93)) 82 29 (some 94)) 82 30 (some 95)) 82 31 (some 96)) 82 32 (some 97)) 82 33 (some 98)) 82 34 (some 99)) 82 35 (some 100)) 82 36 (some 101)) 82 38 (some 102)) 82 42 (some 103)) 82 43 (some 104)) 82 44 (some 105)) 82 45 (some 106)) 82 47 (some 107)) 82 48 (some 108)) 82 49 (some 109)) 82 50 (some 110)) 82 55 (some 111)) 82 56 (some 112)) 82 57 (some 113)) 82 58 (some 114)) 82 59 (some 115)) 82 61 (some 116)) 82 63 (some 117)) := by
  rw [zs_aload_n (ls := [some (.ref 82)]) zd_12_0 rfl]
  rw [zs_obj (r := []) zd_12_1 rfl (Nat.le_of_ble_eq_true rfl)]
  rw [zs_aload_n (ls := [some (.ref 82)]) zd_12_4 rfl]
  rw [zs_sipush (z := 1500) zd_12_5 (by decide)]
  rw [zs_newarray (n := 83) (h9 := by decide) (x := 1500) (Z := zK L) (m := 1500) zd_12_8 rfl ⟨⟨by decide, by decide⟩, rfl⟩ (by decide) rfl hf]
  have hf1 := zx_fr.le (m := 84) hf (by decide)
  rw [zs_putR (n := 84) (K := zx_pk (zK L) 84) (q := 82) (p := 83) zd_12_10 rfl rfl (by decide +kernel) rfl (by decide)]
  have hf2 := zx_fr.upR (p := 82) (i := 1) (x := some 83) hf1 (by decide)
  rw [zs_aload_n (ls := [some (.ref 82)]) zd_12_13 rfl]
  rw [zs_sipush (z := 1500) zd_12_14 (by decide)]
  rw [zs_newarray (n := 84) (h9 := by decide) (x := 1500) (Z := zK L) (m := 1500) zd_12_17 rfl ⟨⟨by decide, by decide⟩, rfl⟩ (by decide) rfl hf2]
  have hf3 := zx_fr.le (m := 85) hf2 (by decide)
  rw [zs_putR (n := 85) (K := zx_pk (zK L) 85) (q := 82) (p := 84) zd_12_19 rfl rfl (by decide +kernel) rfl (by decide)]
  have hf4 := zx_fr.upR (p := 82) (i := 3) (x := some 84) hf3 (by decide)
  rw [zs_aload_n (ls := [some (.ref 82)]) zd_12_22 rfl]
  rw [zs_sipush (z := 1200) zd_12_23 (by decide)]
  rw [zs_newarray (n := 85) (h9 := by decide) (x := 1200) (Z := zK L) (m := 1200) zd_12_26 rfl ⟨⟨by decide, by decide⟩, rfl⟩ (by decide) rfl hf4]
  have hf5 := zx_fr.le (m := 86) hf4 (by decide)
  rw [zs_putR (n := 86) (K := zx_pk (zK L) 86) (q := 82) (p := 85) zd_12_28 rfl rfl (by decide +kernel) rfl (by decide)]
  have hf6 := zx_fr.upR (p := 82) (i := 13) (x := some 85) hf5 (by decide)
  rw [zs_aload_n (ls := [some (.ref 82)]) zd_12_31 rfl]
  rw [zs_sipush (z := 200) zd_12_32 (by decide)]
  rw [zs_newarray (n := 86) (h9 := by decide) (x := 200) (Z := zK L) (m := 200) zd_12_35 rfl ⟨⟨by decide, by decide⟩, rfl⟩ (by decide) rfl hf6]
  have hf7 := zx_fr.le (m := 87) hf6 (by decide)
  rw [zs_putR (n := 87) (K := zx_pk (zK L) 87) (q := 82) (p := 86) zd_12_37 rfl rfl (by decide +kernel) rfl (by decide)]
  have hf8 := zx_fr.upR (p := 82) (i := 14) (x := some 86) hf7 (by decide)
  rw [zs_aload_n (ls := [some (.ref 82)]) zd_12_40 rfl]
  rw [zs_sipush (z := 128) zd_12_41 (by decide)]
  rw [zs_newarray (n := 87) (h9 := by decide) (x := 128) (Z := zK L) (m := 128) zd_12_44 rfl ⟨⟨by decide, by decide⟩, rfl⟩ (by decide) rfl hf8]
  have hf9 := zx_fr.le (m := 88) hf8 (by decide)
  rw [zs_putR (n := 88) (K := zx_pk (zK L) 88) (q := 82) (p := 87) zd_12_46 rfl rfl (by decide +kernel) rfl (by decide)]
  have hf10 := zx_fr.upR (p := 82) (i := 20) (x := some 87) hf9 (by decide)
  rw [zs_aload_n (ls := [some (.ref 82)]) zd_12_49 rfl]
  rw [zs_bipush (z := 6) zd_12_50 (by decide)]
  rw [zs_newarray (n := 88) (h9 := by decide) (x := 6) (Z := zK L) (m := 6) zd_12_52 rfl ⟨⟨by decide, by decide⟩, rfl⟩ (by decide) rfl hf10]
  have hf11 := zx_fr.le (m := 89) hf10 (by decide)
  rw [zs_putR (n := 89) (K := zx_pk (zK L) 89) (q := 82) (p := 88) zd_12_54 rfl rfl (by decide +kernel) rfl (by decide)]
  have hf12 := zx_fr.upR (p := 82) (i := 22) (x := some 88) hf11 (by decide)
  rw [zs_aload_n (ls := [some (.ref 82)]) zd_12_57 rfl]
  rw [zs_bipush (z := 6) zd_12_58 (by decide)]
  rw [zs_newarray (n := 89) (h9 := by decide) (x := 6) (Z := zK L) (m := 6) zd_12_60 rfl ⟨⟨by decide, by decide⟩, rfl⟩ (by decide) rfl hf12]
  have hf13 := zx_fr.le (m := 90) hf12 (by decide)
  rw [zs_putR (n := 90) (K := zx_pk (zK L) 90) (q := 82) (p := 89) zd_12_62 rfl rfl (by decide +kernel) rfl (by decide)]
  have hf14 := zx_fr.upR (p := 82) (i := 23) (x := some 89) hf13 (by decide)
  rw [zs_aload_n (ls := [some (.ref 82)]) zd_12_65 rfl]
  rw [zs_iconst (z := 4) zd_12_66 (by decide)]
  rw [zs_newarray (n := 90) (h9 := by decide) (x := 4) (Z := zK L) (m := 4) zd_12_67 rfl ⟨⟨by decide, by decide⟩, rfl⟩ (by decide) rfl hf14]
  have hf15 := zx_fr.le (m := 91) hf14 (by decide)
  rw [zs_putR (n := 91) (K := zx_pk (zK L) 91) (q := 82) (p := 90) zd_12_69 rfl rfl (by decide +kernel) rfl (by decide)]
  have hf16 := zx_fr.upR (p := 82) (i := 24) (x := some 90) hf15 (by decide)
  rw [zs_aload_n (ls := [some (.ref 82)]) zd_12_72 rfl]
  rw [zs_bipush (z := 6) zd_12_73 (by decide)]
  rw [zs_newarray (n := 91) (h9 := by decide) (x := 6) (Z := zK L) (m := 6) zd_12_75 rfl ⟨⟨by decide, by decide⟩, rfl⟩ (by decide) rfl hf16]
  have hf17 := zx_fr.le (m := 92) hf16 (by decide)
  rw [zs_putR (n := 92) (K := zx_pk (zK L) 92) (q := 82) (p := 91) zd_12_77 rfl rfl (by decide +kernel) rfl (by decide)]
  have hf18 := zx_fr.upR (p := 82) (i := 26) (x := some 91) hf17 (by decide)
  rw [zs_aload_n (ls := [some (.ref 82)]) zd_12_80 rfl]
  rw [zs_bipush (z := 96) zd_12_81 (by decide)]
  rw [zs_newarray (n := 92) (h9 := by decide) (x := 96) (Z := zK L) (m := 96) zd_12_83 rfl ⟨⟨by decide, by decide⟩, rfl⟩ (by decide) rfl hf18]
  have hf19 := zx_fr.le (m := 93) hf18 (by decide)
  rw [zs_putR (n := 93) (K := zx_pk (zK L) 93) (q := 82) (p := 92) zd_12_85 rfl rfl (by decide +kernel) rfl (by decide)]
  have hf20 := zx_fr.upR (p := 82) (i := 27) (x := some 92) hf19 (by decide)
  rw [zs_aload_n (ls := [some (.ref 82)]) zd_12_88 rfl]
  rw [zs_bipush (z := 96) zd_12_89 (by decide)]
  rw [zs_newarray (n := 93) (h9 := by decide) (x := 96) (Z := zK L) (m := 96) zd_12_91 rfl ⟨⟨by decide, by decide⟩, rfl⟩ (by decide) rfl hf20]
  have hf21 := zx_fr.le (m := 94) hf20 (by decide)
  rw [zs_putR (n := 94) (K := zx_pk (zK L) 94) (q := 82) (p := 93) zd_12_93 rfl rfl (by decide +kernel) rfl (by decide)]
  have hf22 := zx_fr.upR (p := 82) (i := 28) (x := some 93) hf21 (by decide)
  rw [zs_aload_n (ls := [some (.ref 82)]) zd_12_96 rfl]
  rw [zs_bipush (z := 96) zd_12_97 (by decide)]
  rw [zs_newarray (n := 94) (h9 := by decide) (x := 96) (Z := zK L) (m := 96) zd_12_99 rfl ⟨⟨by decide, by decide⟩, rfl⟩ (by decide) rfl hf22]
  have hf23 := zx_fr.le (m := 95) hf22 (by decide)
  rw [zs_putR (n := 95) (K := zx_pk (zK L) 95) (q := 82) (p := 94) zd_12_101 rfl rfl (by decide +kernel) rfl (by decide)]
  have hf24 := zx_fr.upR (p := 82) (i := 29) (x := some 94) hf23 (by decide)
  rw [zs_aload_n (ls := [some (.ref 82)]) zd_12_104 rfl]
  rw [zs_bipush (z := 96) zd_12_105 (by decide)]
  rw [zs_newarray (n := 95) (h9 := by decide) (x := 96) (Z := zK L) (m := 96) zd_12_107 rfl ⟨⟨by decide, by decide⟩, rfl⟩ (by decide) rfl hf24]
  have hf25 := zx_fr.le (m := 96) hf24 (by decide)
  rw [zs_putR (n := 96) (K := zx_pk (zK L) 96) (q := 82) (p := 95) zd_12_109 rfl rfl (by decide +kernel) rfl (by decide)]
  have hf26 := zx_fr.upR (p := 82) (i := 30) (x := some 95) hf25 (by decide)
  rw [zs_aload_n (ls := [some (.ref 82)]) zd_12_112 rfl]
  rw [zs_bipush (z := 96) zd_12_113 (by decide)]
  rw [zs_newarray (n := 96) (h9 := by decide) (x := 96) (Z := zK L) (m := 96) zd_12_115 rfl ⟨⟨by decide, by decide⟩, rfl⟩ (by decide) rfl hf26]
  have hf27 := zx_fr.le (m := 97) hf26 (by decide)
  rw [zs_putR (n := 97) (K := zx_pk (zK L) 97) (q := 82) (p := 96) zd_12_117 rfl rfl (by decide +kernel) rfl (by decide)]
  have hf28 := zx_fr.upR (p := 82) (i := 31) (x := some 96) hf27 (by decide)
  rw [zs_aload_n (ls := [some (.ref 82)]) zd_12_120 rfl]
  rw [zs_bipush (z := 96) zd_12_121 (by decide)]
  rw [zs_newarray (n := 97) (h9 := by decide) (x := 96) (Z := zK L) (m := 96) zd_12_123 rfl ⟨⟨by decide, by decide⟩, rfl⟩ (by decide) rfl hf28]
  have hf29 := zx_fr.le (m := 98) hf28 (by decide)
  rw [zs_putR (n := 98) (K := zx_pk (zK L) 98) (q := 82) (p := 97) zd_12_125 rfl rfl (by decide +kernel) rfl (by decide)]
  have hf30 := zx_fr.upR (p := 82) (i := 32) (x := some 97) hf29 (by decide)
  rw [zs_aload_n (ls := [some (.ref 82)]) zd_12_128 rfl]
  rw [zs_bipush (z := 96) zd_12_129 (by decide)]
  rw [zs_newarray (n := 98) (h9 := by decide) (x := 96) (Z := zK L) (m := 96) zd_12_131 rfl ⟨⟨by decide, by decide⟩, rfl⟩ (by decide) rfl hf30]
  have hf31 := zx_fr.le (m := 99) hf30 (by decide)
  rw [zs_putR (n := 99) (K := zx_pk (zK L) 99) (q := 82) (p := 98) zd_12_133 rfl rfl (by decide +kernel) rfl (by decide)]
  have hf32 := zx_fr.upR (p := 82) (i := 33) (x := some 98) hf31 (by decide)
  rw [zs_aload_n (ls := [some (.ref 82)]) zd_12_136 rfl]
  rw [zs_bipush (z := 96) zd_12_137 (by decide)]
  rw [zs_newarray (n := 99) (h9 := by decide) (x := 96) (Z := zK L) (m := 96) zd_12_139 rfl ⟨⟨by decide, by decide⟩, rfl⟩ (by decide) rfl hf32]
  have hf33 := zx_fr.le (m := 100) hf32 (by decide)
  rw [zs_putR (n := 100) (K := zx_pk (zK L) 100) (q := 82) (p := 99) zd_12_141 rfl rfl (by decide +kernel) rfl (by decide)]
  have hf34 := zx_fr.upR (p := 82) (i := 34) (x := some 99) hf33 (by decide)
  rw [zs_aload_n (ls := [some (.ref 82)]) zd_12_144 rfl]
  rw [zs_bipush (z := 96) zd_12_145 (by decide)]
  rw [zs_newarray (n := 100) (h9 := by decide) (x := 96) (Z := zK L) (m := 96) zd_12_147 rfl ⟨⟨by decide, by decide⟩, rfl⟩ (by decide) rfl hf34]
  have hf35 := zx_fr.le (m := 101) hf34 (by decide)
  rw [zs_putR (n := 101) (K := zx_pk (zK L) 101) (q := 82) (p := 100) zd_12_149 rfl rfl (by decide +kernel) rfl (by decide)]
  have hf36 := zx_fr.upR (p := 82) (i := 35) (x := some 100) hf35 (by decide)
  rw [zs_aload_n (ls := [some (.ref 82)]) zd_12_152 rfl]
  rw [zs_bipush (z := 96) zd_12_153 (by decide)]
  rw [zs_newarray (n := 101) (h9 := by decide) (x := 96) (Z := zK L) (m := 96) zd_12_155 rfl ⟨⟨by decide, by decide⟩, rfl⟩ (by decide) rfl hf36]
  have hf37 := zx_fr.le (m := 102) hf36 (by decide)
  rw [zs_putR (n := 102) (K := zx_pk (zK L) 102) (q := 82) (p := 101) zd_12_157 rfl rfl (by decide +kernel) rfl (by decide)]
  have hf38 := zx_fr.upR (p := 82) (i := 36) (x := some 101) hf37 (by decide)
  rw [zs_aload_n (ls := [some (.ref 82)]) zd_12_160 rfl]
  rw [zs_bipush (z := 48) zd_12_161 (by decide)]
  rw [zs_newarray (n := 102) (h9 := by decide) (x := 48) (Z := zK L) (m := 48) zd_12_163 rfl ⟨⟨by decide, by decide⟩, rfl⟩ (by decide) rfl hf38]
  have hf39 := zx_fr.le (m := 103) hf38 (by decide)
  rw [zs_putR (n := 103) (K := zx_pk (zK L) 103) (q := 82) (p := 102) zd_12_165 rfl rfl (by decide +kernel) rfl (by decide)]
  have hf40 := zx_fr.upR (p := 82) (i := 38) (x := some 102) hf39 (by decide)
  rw [zs_aload_n (ls := [some (.ref 82)]) zd_12_168 rfl]
  rw [zs_bipush (z := 10) zd_12_169 (by decide)]
  rw [zs_newarray (n := 103) (h9 := by decide) (x := 10) (Z := zK L) (m := 10) zd_12_171 rfl ⟨⟨by decide, by decide⟩, rfl⟩ (by decide) rfl hf40]
  have hf41 := zx_fr.le (m := 104) hf40 (by decide)
  rw [zs_putR (n := 104) (K := zx_pk (zK L) 104) (q := 82) (p := 103) zd_12_173 rfl rfl (by decide +kernel) rfl (by decide)]
  have hf42 := zx_fr.upR (p := 82) (i := 42) (x := some 103) hf41 (by decide)
  rw [zs_aload_n (ls := [some (.ref 82)]) zd_12_176 rfl]
  rw [zs_bipush (z := 10) zd_12_177 (by decide)]
  rw [zs_newarray (n := 104) (h9 := by decide) (x := 10) (Z := zK L) (m := 10) zd_12_179 rfl ⟨⟨by decide, by decide⟩, rfl⟩ (by decide) rfl hf42]
  have hf43 := zx_fr.le (m := 105) hf42 (by decide)
  rw [zs_putR (n := 105) (K := zx_pk (zK L) 105) (q := 82) (p := 104) zd_12_181 rfl rfl (by decide +kernel) rfl (by decide)]
  have hf44 := zx_fr.upR (p := 82) (i := 43) (x := some 104) hf43 (by decide)
  rw [zs_aload_n (ls := [some (.ref 82)]) zd_12_184 rfl]
  rw [zs_bipush (z := 10) zd_12_185 (by decide)]
  rw [zs_newarray (n := 105) (h9 := by decide) (x := 10) (Z := zK L) (m := 10) zd_12_187 rfl ⟨⟨by decide, by decide⟩, rfl⟩ (by decide) rfl hf44]
  have hf45 := zx_fr.le (m := 106) hf44 (by decide)
  rw [zs_putR (n := 106) (K := zx_pk (zK L) 106) (q := 82) (p := 105) zd_12_189 rfl rfl (by decide +kernel) rfl (by decide)]
  have hf46 := zx_fr.upR (p := 82) (i := 44) (x := some 105) hf45 (by decide)
  rw [zs_aload_n (ls := [some (.ref 82)]) zd_12_192 rfl]
  rw [zs_bipush (z := 10) zd_12_193 (by decide)]
  rw [zs_newarray (n := 106) (h9 := by decide) (x := 10) (Z := zK L) (m := 10) zd_12_195 rfl ⟨⟨by decide, by decide⟩, rfl⟩ (by decide) rfl hf46]
  have hf47 := zx_fr.le (m := 107) hf46 (by decide)
  rw [zs_putR (n := 107) (K := zx_pk (zK L) 107) (q := 82) (p := 106) zd_12_197 rfl rfl (by decide +kernel) rfl (by decide)]
  have hf48 := zx_fr.upR (p := 82) (i := 45) (x := some 106) hf47 (by decide)
  rw [zs_aload_n (ls := [some (.ref 82)]) zd_12_200 rfl]
  rw [zs_bipush (z := 40) zd_12_201 (by decide)]
  rw [zs_newarray (n := 107) (h9 := by decide) (x := 40) (Z := zK L) (m := 40) zd_12_203 rfl ⟨⟨by decide, by decide⟩, rfl⟩ (by decide) rfl hf48]
  have hf49 := zx_fr.le (m := 108) hf48 (by decide)
  rw [zs_putR (n := 108) (K := zx_pk (zK L) 108) (q := 82) (p := 107) zd_12_205 rfl rfl (by decide +kernel) rfl (by decide)]
  have hf50 := zx_fr.upR (p := 82) (i := 47) (x := some 107) hf49 (by decide)
  rw [zs_aload_n (ls := [some (.ref 82)]) zd_12_208 rfl]
  rw [zs_ldc (x := 320000) zd_12_209 rfl]
  rw [zs_newarray (n := 108) (h9 := by decide) (x := 320000) (Z := zK L) (m := 320000) zd_12_211 rfl ⟨⟨by decide, by decide⟩, rfl⟩ (by decide) rfl hf50]
  have hf51 := zx_fr.le (m := 109) hf50 (by decide)
  rw [zs_putR (n := 109) (K := zx_pk (zK L) 109) (q := 82) (p := 108) zd_12_213 rfl rfl (by decide +kernel) rfl (by decide)]
  have hf52 := zx_fr.upR (p := 82) (i := 48) (x := some 108) hf51 (by decide)
  rw [zs_aload_n (ls := [some (.ref 82)]) zd_12_216 rfl]
  rw [zs_sipush (z := 8192) zd_12_217 (by decide)]
  rw [zs_newarray (n := 109) (h9 := by decide) (x := 8192) (Z := zK L) (m := 8192) zd_12_220 rfl ⟨⟨by decide, by decide⟩, rfl⟩ (by decide) rfl hf52]
  have hf53 := zx_fr.le (m := 110) hf52 (by decide)
  rw [zs_putR (n := 110) (K := zx_pk (zK L) 110) (q := 82) (p := 109) zd_12_222 rfl rfl (by decide +kernel) rfl (by decide)]
  have hf54 := zx_fr.upR (p := 82) (i := 49) (x := some 109) hf53 (by decide)
  rw [zs_aload_n (ls := [some (.ref 82)]) zd_12_225 rfl]
  rw [zs_sipush (z := 8000) zd_12_226 (by decide)]
  rw [zs_newarray (n := 110) (h9 := by decide) (x := 8000) (Z := zK L) (m := 8000) zd_12_229 rfl ⟨⟨by decide, by decide⟩, rfl⟩ (by decide) rfl hf54]
  have hf55 := zx_fr.le (m := 111) hf54 (by decide)
  rw [zs_putR (n := 111) (K := zx_pk (zK L) 111) (q := 82) (p := 110) zd_12_231 rfl rfl (by decide +kernel) rfl (by decide)]
  have hf56 := zx_fr.upR (p := 82) (i := 50) (x := some 110) hf55 (by decide)
  rw [zs_aload_n (ls := [some (.ref 82)]) zd_12_234 rfl]
  rw [zs_sipush (z := 4000) zd_12_235 (by decide)]
  rw [zs_newarray (n := 111) (h9 := by decide) (x := 4000) (Z := zK L) (m := 4000) zd_12_238 rfl ⟨⟨by decide, by decide⟩, rfl⟩ (by decide) rfl hf56]
  have hf57 := zx_fr.le (m := 112) hf56 (by decide)
  rw [zs_putR (n := 112) (K := zx_pk (zK L) 112) (q := 82) (p := 111) zd_12_240 rfl rfl (by decide +kernel) rfl (by decide)]
  have hf58 := zx_fr.upR (p := 82) (i := 55) (x := some 111) hf57 (by decide)
  rw [zs_aload_n (ls := [some (.ref 82)]) zd_12_243 rfl]
  rw [zs_sipush (z := 4000) zd_12_244 (by decide)]
  rw [zs_newarray (n := 112) (h9 := by decide) (x := 4000) (Z := zK L) (m := 4000) zd_12_247 rfl ⟨⟨by decide, by decide⟩, rfl⟩ (by decide) rfl hf58]
  have hf59 := zx_fr.le (m := 113) hf58 (by decide)
  rw [zs_putR (n := 113) (K := zx_pk (zK L) 113) (q := 82) (p := 112) zd_12_249 rfl rfl (by decide +kernel) rfl (by decide)]
  have hf60 := zx_fr.upR (p := 82) (i := 56) (x := some 112) hf59 (by decide)
  rw [zs_aload_n (ls := [some (.ref 82)]) zd_12_252 rfl]
  rw [zs_sipush (z := 4000) zd_12_253 (by decide)]
  rw [zs_newarray (n := 113) (h9 := by decide) (x := 4000) (Z := zK L) (m := 4000) zd_12_256 rfl ⟨⟨by decide, by decide⟩, rfl⟩ (by decide) rfl hf60]
  have hf61 := zx_fr.le (m := 114) hf60 (by decide)
  rw [zs_putR (n := 114) (K := zx_pk (zK L) 114) (q := 82) (p := 113) zd_12_258 rfl rfl (by decide +kernel) rfl (by decide)]
  have hf62 := zx_fr.upR (p := 82) (i := 57) (x := some 113) hf61 (by decide)
  rw [zs_aload_n (ls := [some (.ref 82)]) zd_12_261 rfl]
  rw [zs_sipush (z := 9216) zd_12_262 (by decide)]
  rw [zs_newarray (n := 114) (h9 := by decide) (x := 9216) (Z := zK L) (m := 9216) zd_12_265 rfl ⟨⟨by decide, by decide⟩, rfl⟩ (by decide) rfl hf62]
  have hf63 := zx_fr.le (m := 115) hf62 (by decide)
  rw [zs_putR (n := 115) (K := zx_pk (zK L) 115) (q := 82) (p := 114) zd_12_267 rfl rfl (by decide +kernel) rfl (by decide)]
  have hf64 := zx_fr.upR (p := 82) (i := 58) (x := some 114) hf63 (by decide)
  rw [zs_aload_n (ls := [some (.ref 82)]) zd_12_270 rfl]
  rw [zs_sipush (z := 4000) zd_12_271 (by decide)]
  rw [zs_newarray (n := 115) (h9 := by decide) (x := 4000) (Z := zK L) (m := 4000) zd_12_274 rfl ⟨⟨by decide, by decide⟩, rfl⟩ (by decide) rfl hf64]
  have hf65 := zx_fr.le (m := 116) hf64 (by decide)
  rw [zs_putR (n := 116) (K := zx_pk (zK L) 116) (q := 82) (p := 115) zd_12_276 rfl rfl (by decide +kernel) rfl (by decide)]
  have hf66 := zx_fr.upR (p := 82) (i := 59) (x := some 115) hf65 (by decide)
  rw [zs_aload_n (ls := [some (.ref 82)]) zd_12_279 rfl]
  rw [zs_sipush (z := 4000) zd_12_280 (by decide)]
  rw [zs_newarray (n := 116) (h9 := by decide) (x := 4000) (Z := zK L) (m := 4000) zd_12_283 rfl ⟨⟨by decide, by decide⟩, rfl⟩ (by decide) rfl hf66]
  have hf67 := zx_fr.le (m := 117) hf66 (by decide)
  rw [zs_putR (n := 117) (K := zx_pk (zK L) 117) (q := 82) (p := 116) zd_12_285 rfl rfl (by decide +kernel) rfl (by decide)]
  have hf68 := zx_fr.upR (p := 82) (i := 61) (x := some 116) hf67 (by decide)
  rw [zs_aload_n (ls := [some (.ref 82)]) zd_12_288 rfl]
  rw [zs_iconst (z := (-1)) zd_12_289 (by decide)]
  rw [zs_putI (n := 117) (K := zx_pk (zK L) 117) (q := 82) zd_12_290 rfl rfl (by decide +kernel) rfl (by decide)]
  have hf69 := zx_fr.up (p := 82) (i := 62) (x := (-1)) hf68 (by decide)
  rw [zs_aload_n (ls := [some (.ref 82)]) zd_12_293 rfl]
  rw [zs_sipush (z := 4000) zd_12_294 (by decide)]
  rw [zs_newarray (n := 117) (h9 := by decide) (x := 4000) (Z := zK L) (m := 4000) zd_12_297 rfl ⟨⟨by decide, by decide⟩, rfl⟩ (by decide) rfl hf69]
  have hf70 := zx_fr.le (m := 118) hf69 (by decide)
  rw [zs_putR (n := 118) (K := zx_pk (zK L) 118) (q := 82) (p := 117) zd_12_299 rfl rfl (by decide +kernel) rfl (by decide)]
  have hf71 := zx_fr.upR (p := 82) (i := 63) (x := some 117) hf70 (by decide)
  refine ⟨(zs_return zd_12_302 rfl).trans ?_, hf71⟩
  simp only [Nat.add_assoc, Nat.reduceAdd]
set_option maxRecDepth 20000 in
theorem zi_law (L : Nat) {a b : Nat} {σ : Nat → Nat → Int32} {τ : Nat → Nat → Int64} {ρ : Nat → Nat → Option Nat} (d : Nat) (hd : 4 ≤ d) (hf : zx_fr 2 σ τ ρ) : zx_go (d + 1) 264 0 [some (.ref 0), none, none, none, none, none, none] [] ((2, a, b), zx_pk (zK L) 2, σ, τ, ρ) = zx_go (d + 1) 264 23 [some (.ref 0), some (.ref 2), some (.ref 82), some (.ref 118), some (.int 0), none, none] [] ((119, a + 117, b + 522905), zx_pk (zK L) 119, (zx_up (zx_up (zx_up (zx_up (zx_up (zx_up (zx_up σ 7 (Int32.toNatClampNeg 96) (-1)) 8 (Int32.toNatClampNeg 96) (-1)) 9 (Int32.toNatClampNeg 96) (-1)) 10 (Int32.toNatClampNeg 96) (-1)) 12 (Int32.toNatClampNeg 96) (-1)) 2 16 (-1)) 82 62 (-1)), τ, (zx_up (zx_up (zx_up (zx_up (zx_up (zx_up (zx_up (zx_up (zx_up (zx_up (zx_up (zx_up (zx_up (zx_up (zx_up (zx_up (zx_up (zx_up (zx_up (zx_up (zx_up (zx_up (zx_up (zx_up (zx_up (zx_up (zx_up (zx_up (zx_up (zx_up (zx_up (zx_up (zx_up (zx_up (zx_up (zx_up (zx_up (zx_up (zx_up (zx_up (zx_up (zx_up (zx_up (zx_up (zx_up (zx_up (zx_up (zx_up (zx_up (zx_up (zx_up (zx_up (zx_up (zx_up (zx_up (zx_up (zx_up (zx_up (zx_up (zx_up (zx_up (zx_up (zx_up (zx_up (zx_up (zx_up (zx_up (zx_up (zx_up (zx_up (zx_up (zx_up (zx_up (zx_up (zx_up (zx_up (zx_up (zx_up (zx_up (zx_up (zx_up (zx_up (zx_up (zx_up (zx_up (zx_up (zx_up (zx_up (zx_up (zx_up (zx_up (zx_up (zx_up (zx_up (zx_up (zx_up (zx_up (zx_up (zx_up (zx_up (zx_up (zx_up (zx_up (zx_up (zx_up (zx_up (zx_up (zx_up (zx_up (zx_up (zx_up (zx_up (zx_up (zx_up (zx_up (zx_up (zx_up (zx_up (zx_up (zx_up (zx_up (zx_up (zx_up (zx_up (zx_up (zx_up (zx_up ρ 2 0 (some 3)) 4 7 (some 5)) 4 8 (some 6)) 4 9 (some 7)) 4 10 (some 8)) 4 11 (some 9)) 4 12 (some 10)) 4 13 (some 11)) 4 14 (some 12)) 4 15 (some 13)) 4 16 (some 14)) 4 17 (some 15)) 4 18 (some 16)) 2 1 (some 4)) 18 0 (some 19)) 18 1 (some 20)) 18 2 (some 21)) 18 4 (some 22)) 17 2 (some 18)) 17 4 (some 23)) 17 5 (some 24)) 17 0 (some 4)) 25 1 (some 26)) 25 2 (some 27)) 25 3 (some 28)) 25 0 (some 3)) 17 1 (some 25)) 29 1 (some 30)) 29 2 (some 31)) 29 3 (some 32)) 29 4 (some 33)) 29 5 (some 34)) 29 0 (some 4)) 17 3 (some 29)) 2 2 (some 17)) 35 1 (some 36)) 35 2 (some 37)) 35 3 (some 38)) 35 4 (some 39)) 35 5 (some 40)) 35 0 (some 4)) 2 3 (some 35)) 41 2 (some 42)) 41 3 (some 43)) 41 4 (some 44)) 41 5 (some 45)) 41 0 (some 4)) 41 1 (some 35)) 2 4 (some 41)) 47 0 (some 48)) 46 2 (some 47)) 49 0 (some 50)) 46 3 (some 49)) 51 0 (some 52)) 46 4 (some 51)) 53 0 (some 54)) 46 5 (some 53)) 55 0 (some 56)) 46 6 (some 55)) 46 8 (some 57)) 46 0 (some 4)) 46 1 (some 35)) 59 0 (some 60)) 58 1 (some 59)) 61 0 (some 62)) 58 2 (some 61)) 58 3 (some 63)) 58 0 (some 35)) 46 7 (some 58)) 2 5 (some 46)) 64 2 (some 65)) 64 3 (some 66)) 64 4 (some 67)) 64 5 (some 68)) 64 0 (some 4)) 64 1 (some 35)) 2 6 (some 64)) 70 0 (some 71)) 69 1 (some 70)) 72 0 (some 73)) 69 2 (some 72)) 69 3 (some 74)) 69 0 (some 35)) 2 7 (some 69)) 2 8 (some 75)) 76 1 (some 77)) 76 2 (some 78)) 79 0 (some 80)) 76 3 (some 79)) 76 0 (some 4)) 2 9 (some 76)) 2 10 (some 81)) 82 1 (some 83)) 82 3 (some 84)) 82 13 (some 85)) 82 14 (some 86)) 82 20 (some 87)) 82 22 (some 88)) 82 23 (some 89)) 82 24 (some 90)) 82 26 (some 91)) 82 27 (some 92)) 82 28 (some 93)) 82 29 (some 94)) 82 30 (some 95)) 82 31 (some 96)) 82 32 (some 97)) 82 33 (some 98)) 82 34 (some 99)) 82 35 (some 100)) 82 36 (some 101)) 82 38 (some 102)) 82 42 (some 103)) 82 43 (some 104)) 82 44 (some 105)) 82 45 (some 106)) 82 47 (some 107)) 82 48 (some 108)) 82 49 (some 109)) 82 50 (some 110)) 82 55 (some 111)) 82 56 (some 112)) 82 57 (some 113)) 82 58 (some 114)) 82 59 (some 115)) 82 61 (some 116)) 82 63 (some 117))) := by
  rw [zs_new (n := 2) (h9 := by decide) (c := 11) (m := 17) (Z := zK L) zd_264_0 rfl rfl rfl hf]
  have hf1 := zx_fr.le (m := 3) hf (by decide)
  rw [zs_dup (a := .ref 2) zd_264_3 rfl]
  rw [zs_callIv (st := [.ref 2, .ref 2]) (e := 4) (as := [.ref 2]) (rest := [.ref 2]) zd_264_4 rfl (by decide +kernel) (by decide) rfl rfl (Nat.le_of_ble_eq_true rfl) rfl (Nat.le_of_ble_eq_true rfl) (Nat.le_trans (by decide) hd) (zi_22 L hf1).1]
  have hfc1 := (zi_22 L (a := 0) (b := 0) hf1).2
  rw [zs_astore_n (ls' := [some (.ref 0), some (.ref 2), none, none, none, none, none]) zd_264_7 (Nat.le_of_ble_eq_true rfl) rfl]
  rw [zs_new (n := 82) (h9 := by decide) (c := 12) (m := 64) (Z := zK L) zd_264_8 rfl rfl rfl hfc1]
  have hf3 := zx_fr.le (m := 83) hfc1 (by decide)
  rw [zs_dup (a := .ref 82) zd_264_11 rfl]
  rw [zs_callIv (st := [.ref 82, .ref 82]) (e := 1) (as := [.ref 82]) (rest := [.ref 82]) zd_264_12 rfl (by decide +kernel) (by decide) rfl rfl (Nat.le_of_ble_eq_true rfl) rfl (Nat.le_of_ble_eq_true rfl) (Nat.le_trans (by decide) hd) (zi_23 L hf3).1]
  have hfc3 := (zi_23 L (a := 0) (b := 0) hf3).2
  rw [zs_astore_n (ls' := [some (.ref 0), some (.ref 2), some (.ref 82), none, none, none, none]) zd_264_15 (Nat.le_of_ble_eq_true rfl) rfl]
  rw [zs_iconst (z := 1) zd_264_16 (by decide)]
  rw [zs_newarray (n := 118) (h9 := by decide) (x := 1) (Z := zK L) (m := 1) zd_264_17 rfl ⟨⟨by decide, by decide⟩, rfl⟩ (by decide) rfl hfc3]
  have hf5 := zx_fr.le (m := 119) hfc3 (by decide)
  rw [zs_astore_n (ls' := [some (.ref 0), some (.ref 2), some (.ref 82), some (.ref 118), none, none, none]) zd_264_19 (Nat.le_of_ble_eq_true rfl) rfl]
  rw [zs_iconst (z := 0) zd_264_20 (by decide)]
  refine (zs_istore (ls' := [some (.ref 0), some (.ref 2), some (.ref 82), some (.ref 118), some (.int 0), none, none]) zd_264_21 (Nat.le_of_ble_eq_true rfl) rfl).trans ?_
  simp only [Nat.add_assoc, Nat.reduceAdd]
