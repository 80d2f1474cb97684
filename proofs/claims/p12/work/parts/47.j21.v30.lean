-- both answer alike
set_option maxRecDepth 2000
theorem PKW.of {c len : Nat → Nat} {d : Nat} {ρ μ r ν : zS} (h : PKW c len d ρ μ) (g : ∀ q, q = 4 ∨ q = 5 ∨ q = 7 ∨ q = 29 ∨ q = 30 → r q = ρ q) (gm : ∀ q, q = 90 ∨ q = 92 ∨ q = 103 → ν q = μ q) (g2 : ∀ i, i = 25 ∨ i = 39 ∨ i = 41 ∨ i = 46 → ν 82 i = μ 82 i) : PKW c len d r ν := by
  unfold PKW at *
  rw [g 4 (by decide), g 5 (by decide), g 7 (by decide), g 29 (by decide), g 30 (by decide), gm 90 (by decide), gm 92 (by decide), gm 103 (by decide), g2 25 (by decide), g2 39 (by decide), g2 41 (by decide), g2 46 (by decide)]
  exact h
theorem LAT.sj {nz : Nat} {wz : Nat → Int64} {SL : Nat → Nat} {c : Nat → Nat} {ws : Nat → Nat → Int64} {len : Nat → Nat} {d t L : Nat} {k : Int32} {ρ r μ ν : zS} {τ υ : zT} (h1 : nz ≤ 128) (h3 : ∀ l, l < nz → Nm μ (17 + l) (wz l) ∧ SJ c len μ (SL l) ∧ τ 23 (SL l) = wz l ∧ ρ 24 (SL l) = μ 87 l) (h4 : ∀ l l', l < l' → l' < nz → SL l < SL l') (h5 : ∀ q, SJ c len μ q → (∃ k, k < c 2 ∧ μ 93 q = Int32.ofNat k ∧ ws 2 k = τ 23 q) ∨ (∃ l, l < nz ∧ μ 93 q = Int32.ofNat (4 + l) ∧ wz l = τ 23 q ∧ SL l ≤ q))
    (pk : PKW c len d ρ μ) (ht : t = c 2 - 1) (c1 : 0 < c 2) (hL : L = len t) (x24 : ∀ j, j ≠ 24 * t + L → r 24 j = ρ 24 j) (y : ∀ j, j ≠ 24 * t + L → υ 23 j = τ 23 j) (hk : k = 10 ∨ k = 11) (m92 : ν 92 (24 * t + L) = k) (mo : ∀ j, j ≠ 24 * t + L → ν 92 j = μ 92 j ∧ ν 93 j = μ 93 j) (nms : ∀ l, l < nz → Nm ν (17 + l) (wz l)) (m87 : ∀ l, l < nz → ν 87 l = μ 87 l)
    (hD : (ν 82 19 = Int32.ofNat nz ∧ ((∃ k, k < c 2 ∧ ν 93 (24 * t + L) = Int32.ofNat k ∧ ws 2 k = υ 23 (24 * t + L)) ∨ (∃ l, l < nz ∧ ν 93 (24 * t + L) = Int32.ofNat (4 + l) ∧ wz l = υ 23 (24 * t + L)))) ∨ (ν 82 19 = Int32.ofNat (nz + 1) ∧ nz + 1 ≤ 128 ∧ Nm ν (17 + nz) (υ 23 (24 * t + L)) ∧ ν 87 nz = r 24 (24 * t + L) ∧ ν 93 (24 * t + L) = Int32.ofNat (4 + nz))) : LAT c ws (lUp len t (L + 1)) r υ ν := by
  have A : ∀ q, SJ c len μ q → q < 24 * t + L := by
    rintro q ⟨⟨t', s, a1, a2, rfl⟩, _⟩
    have := (pk.1 t' a1).1
    by_cases q2 : t' = t
    · rw [q2] at a2 ⊢; omega
    · omega
  have B : ∀ q, SJ c len μ q → SJ c (lUp len t (L + 1)) ν q := by
    intro q hq
    have ne := A q hq
    obtain ⟨⟨t', s, a1, a2, e⟩, b⟩ := hq
    refine ⟨⟨t', s, a1, ?_, e⟩, by rw [(mo q (by omega)).1]; exact b⟩
    by_cases q2 : t' = t
    · rw [q2, lUp_at]; rw [q2] at a2; omega
    · rw [lUp_ne q2]; exact a2
  have B0 : SJ c (lUp len t (L + 1)) ν (24 * t + L) := ⟨⟨t, L, by omega, by rw [lUp_at]; omega, rfl⟩, by rw [m92]; exact hk⟩
  have C : ∀ q, SJ c (lUp len t (L + 1)) ν q → q = 24 * t + L ∨ SJ c len μ q := by
    intro q hq
    obtain ⟨⟨t', s, a1, a2, e⟩, b⟩ := hq
    by_cases ne : q = 24 * t + L
    · exact Or.inl ne
    refine Or.inr ⟨⟨t', s, a1, ?_, e⟩, by rw [← (mo q ne).1]; exact b⟩
    by_cases q2 : t' = t
    · rw [q2, lUp_at] at a2
      rw [q2] at e ⊢
      omega
    · rw [lUp_ne q2] at a2; exact a2
  have old : ∀ l, l < nz → Nm ν (17 + l) (wz l) ∧ SJ c (lUp len t (L + 1)) ν (SL l) ∧ υ 23 (SL l) = wz l ∧ r 24 (SL l) = ν 87 l := by
    intro l hl
    obtain ⟨a, b, u, v⟩ := h3 l hl
    have lt := A _ b
    exact ⟨nms l hl, B _ b, by rw [y _ (by omega)]; exact u, by rw [x24 _ (by omega), m87 l hl]; exact v⟩
  rcases hD with ⟨d1, d2⟩ | ⟨d1, d2, d3, d4, d5⟩
  · refine ⟨nz, wz, SL, h1, d1, old, h4, fun q hq => ?_⟩
    rcases C q hq with e | q'
    · subst e
      rcases d2 with d2 | ⟨l, l1, l2, l3⟩
      · exact Or.inl d2
      · exact Or.inr ⟨l, l1, l2, l3, Nat.le_of_lt (A _ (h3 l l1).2.1)⟩
    · have lt := A q q'
      rw [(mo q (by omega)).2, y q (by omega)]
      exact h5 q q'
  · refine ⟨nz + 1, wAdd nz wz (υ 23 (24 * t + L)), lUp SL nz (24 * t + L), d2, d1, fun l hl => ?_, fun l l' ll hl' => ?_, fun q hq => ?_⟩
    · by_cases e : l = nz
      · rw [e, lUp_at, wAdd_at]
        exact ⟨d3, B0, rfl, d4.symm⟩
      · rw [lUp_ne e, wAdd_ne e]
        exact old l (by omega)
    · rw [lUp_ne (show l ≠ nz by omega)]
      by_cases e : l' = nz
      · rw [e, lUp_at]; exact A _ (h3 l (by omega)).2.1
      · rw [lUp_ne e]; exact h4 l l' ll (by omega)
    · rcases C q hq with e | q'
      · subst e
        exact Or.inr ⟨nz, by omega, d5, wAdd_at, by rw [lUp_at]; exact Nat.le_refl _⟩
      · have lt := A q q'
        rw [(mo q (by omega)).2, y q (by omega)]
        rcases h5 q q' with h | ⟨l, l1, l2, l3, l4⟩
        · exact Or.inl h
        · exact Or.inr ⟨l, by omega, l2, by rw [wAdd_ne (by omega)]; exact l3, by rw [lUp_ne (by omega)]; exact l4⟩
theorem p_M_threadNamed {T : TS} {b N nz : Nat} {c : Nat → Nat} {ws : Nat → Nat → Int64} {nv : Nat} {wv : Nat → Int64} {wz : Nat → Int64} {μ : zS} {f l t v : Int32} (sm : SM T b μ) (nm : NSM c ws nv wv μ) (hk : T.1 b = 3) (lq : LQ c ws nv wv (T.2.2.1 b) f l t v) (dj : t ≠ -1 → f = -1 ∧ l = -1) (z128 : nz ≤ 128) (h19 : μ 82 19 = Int32.ofNat nz) (nms : ∀ l, l < nz → Nm μ (17 + l) (wz l)) : zp (zf_M_threadNamed N μ) (fun s => ((f ≠ -1 ∨ l ≠ -1) ∧ MFl s.2 (T.2.1 b)) ∨ (f = -1 ∧ l = -1 ∧ SM T (b + 1) s.2 ∧ ((NX0 μ s.2 ∧ ((t ≠ -1 ∧ s.1 = t) ∨ (∃ k, k < nz ∧ wz k = T.2.2.1 b ∧ s.1 = Int32.ofNat (4 + k)))) ∨ (nz + 1 ≤ 128 ∧ s.1 = Int32.ofNat (4 + nz) ∧ ∃ μ2, MC0 (17 + nz) μ μ2 ∧ Nm μ2 (17 + nz) (T.2.2.1 b) ∧ NX0 (zx_up (zx_up μ2 87 nz (T.2.1 b)) 82 19 (Int32.ofNat (nz + 1))) s.2)))) := by
  have lm := LM.mk nm (sm.cur hk) lq
  have k2 : μ 82 7 = 2 := sm.d.name.mpr hk
  have kk : ¬ T.1 b = 0 ∧ ¬ T.1 b = 1 := by rw [hk]; decide
  unfold zf_M_threadNamed zb_M_threadNamed_25
  refine zp_ite (fun _ => zp_ite (fun q => absurd k2 q) fun _ => zp_bind (zp_mono (lm.2.2.1 N) fun r14 h14 => ?_)) fun q => absurd sm.2.2.2 q
  subst h14
  have go52 : f = -1 → l = -1 → zp (zb_M_threadNamed_52 N μ r14) (fun s => ((f ≠ -1 ∨ l ≠ -1) ∧ MFl s.2 (T.2.1 b)) ∨ (f = -1 ∧ l = -1 ∧ SM T (b + 1) s.2 ∧ ((NX0 μ s.2 ∧ ((r14 ≠ -1 ∧ s.1 = r14) ∨ (∃ k, k < nz ∧ wz k = T.2.2.1 b ∧ s.1 = Int32.ofNat (4 + k)))) ∨ (nz + 1 ≤ 128 ∧ s.1 = Int32.ofNat (4 + nz) ∧ ∃ μ2, MC0 (17 + nz) μ μ2 ∧ Nm μ2 (17 + nz) (T.2.2.1 b) ∧ NX0 (zx_up (zx_up μ2 87 nz (T.2.1 b)) 82 19 (Int32.ofNat (nz + 1))) s.2)))) := by
    intro hf hl
    unfold zb_M_threadNamed_52 zb_M_threadNamed_112 zb_M_threadNamed_116
    refine zp_ite (fun z => zp_bind (zp_mono (sm.nx kk) ?_)) fun z => ?_
    · rintro ν ⟨n1, n3⟩
      exact zp_some (Or.inr ⟨hf, hl, n1, Or.inl ⟨n3, Or.inl ⟨z, rfl⟩⟩⟩)
    · rw [h19]
      refine zp_bind (zp_mono (p_M_find (fr := 17) (c := nz) (by omega) nms (sm.cur hk)) fun r8 h8 => zp_ite (fun y => ?_) fun y => ?_)
      · rcases h8 with ⟨e, _⟩ | ⟨k, k1, k3, k4, _⟩
        · exact absurd e y
        · refine zp_bind (zp_mono (sm.nx kk) ?_)
          rintro ν ⟨n1, n3⟩
          exact zp_some (Or.inr ⟨hf, hl, n1, Or.inl ⟨n3, Or.inr ⟨k, k1, k4, by rw [k3]; exact zo_plus (i := 4) rfl (by omega)⟩⟩⟩)
      · have e17 : 17 + Int32.ofNat nz = Int32.ofNat (17 + nz) := zo_plus (i := 17) rfl (by omega)
        rw [e17]
        refine zp_bind (zp_mono (p_M_call (by omega) (sm.cur hk)) ?_)
        rintro μ2 ⟨mc, nmz⟩
        have e82 : μ2 82 = μ 82 := mc.1 82 (by decide) (by decide)
        rw [e82, h19, sm.p, zo_n (by omega), zo_1 (by omega)]
        refine zp_chk fun ck => zp_bind (zp_mono (SM.nx (T := T) (a := b) ?_ kk) ?_)
        · refine sm.of ?_ fun i hi => ?_
          · rw [zu_other (by decide), zu_other (by decide), mc.1 84 (by decide) (by decide)]
          · rw [zx_up_same, zu_ne (by omega), zu_other (by decide), e82]
        · rintro ν ⟨n1, n3⟩
          refine zp_some (Or.inr ⟨hf, hl, n1, Or.inr ⟨?_, zo_plus (i := 4) rfl (by omega), μ2, mc, nmz, n3⟩⟩)
          have := (zo_lt (k := nz) (j := 128) (by omega) (by omega)).mp ck.2
          omega
  have go46 : (f ≠ -1 ∨ l ≠ -1) → zp (zb_M_threadNamed_46 N μ) (fun s => ((f ≠ -1 ∨ l ≠ -1) ∧ MFl s.2 (T.2.1 b)) ∨ (f = -1 ∧ l = -1 ∧ SM T (b + 1) s.2 ∧ ((NX0 μ s.2 ∧ ((r14 ≠ -1 ∧ s.1 = r14) ∨ (∃ k, k < nz ∧ wz k = T.2.2.1 b ∧ s.1 = Int32.ofNat (4 + k)))) ∨ (nz + 1 ≤ 128 ∧ s.1 = Int32.ofNat (4 + nz) ∧ ∃ μ2, MC0 (17 + nz) μ μ2 ∧ Nm μ2 (17 + nz) (T.2.2.1 b) ∧ NX0 (zx_up (zx_up μ2 87 nz (T.2.1 b)) 82 19 (Int32.ofNat (nz + 1))) s.2)))) := by
    intro h
    unfold zb_M_threadNamed_46
    refine zp_bind (zp_mono (p_M_cannot sm.2.2.2) fun s hs => zp_some (Or.inl ⟨h, ?_⟩))
    rw [sm.p] at hs
    exact hs
  refine zp_ite (fun q => absurd k2 q) fun _ => zp_ite (fun z => go52 (dj z).1 (dj z).2) fun z => zp_bind (zp_mono (lm.2.2.2.1 N) fun r12 h12 => zp_ite (fun y => ?_) fun y => go46 ?_)
  · rcases h12 with h | h
    · exact go52 h.2.1 h.2.2.1
    · rw [h.1] at y; exact absurd y (by decide)
  · rcases h12 with h | h
    · exact absurd h.1 y
    · by_cases hf : f = -1
      · exact Or.inr fun hl => h.2 ⟨hf, hl, Classical.not_not.mp z⟩
      · exact Or.inl hf
