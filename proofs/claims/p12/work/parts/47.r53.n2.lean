-- both answer alike
set_option maxRecDepth 2000
def RGS (m : Nat) (len : Nat → Nat) (nc : Nat → Nat → Nat) (ρ : zS) (W : Nat → Nat → Int32) (n : Nat) (μ : zS) : Prop := PC m len nc ρ μ ∧ RTB 0 n μ ∧ ∀ j, j < n → ST m len nc ρ (W j) (row40 μ j)
theorem RTB.of {b n : Nat} {μ ν : zS} (h : RTB b n μ) (e : ∀ q, q = 108 ∨ q = 109 ∨ q = 110 → ν q = μ q) (e82 : ν 82 51 = μ 82 51 ∧ ν 82 52 = μ 82 52) : RTB b n ν := by
  have r : ∀ s, row40 ν s = row40 μ s := fun s => by unfold row40; rw [e 108 (by decide)]
  obtain ⟨h1, h2, h3, h4⟩ := h
  refine ⟨h1, e82.1.trans h2, e82.2.trans h3, fun k hk => ?_⟩
  obtain ⟨l, cl, mem⟩ := h4 k hk
  refine ⟨l, by rw [e 109 (by decide), e 110 (by decide)]; exact cl, fun s => ?_⟩
  rw [r]
  exact mem s
theorem PC.q {m : Nat} {len : Nat → Nat} {nc : Nat → Nat → Nat} {ρ μ ν : zS} (h : PC m len nc ρ μ) (e : ∀ q, 90 ≤ q ∧ q ≤ 101 → ν q = μ q) (e17 : ν 82 17 = μ 82 17) : PC m len nc ρ ν := by
  unfold PC PRO WKV at *
  rw [e17, e 90 (by decide), e 92 (by decide), e 93 (by decide), e 94 (by decide), e 95 (by decide), e 98 (by decide), e 99 (by decide), e 100 (by decide), e 101 (by decide)]
  exact h
theorem RGS.of {m n : Nat} {len : Nat → Nat} {nc : Nat → Nat → Nat} {ρ μ ν : zS} {W : Nat → Nat → Int32} (h : RGS m len nc ρ W n μ) (e : ∀ q, (90 ≤ q ∧ q ≤ 101) ∨ q = 108 ∨ q = 109 ∨ q = 110 → ν q = μ q) (e82 : ν 82 17 = μ 82 17 ∧ ν 82 51 = μ 82 51 ∧ ν 82 52 = μ 82 52) : RGS m len nc ρ W n ν := by
  refine ⟨?_, h.2.1.of (fun q hq => e q (by omega)) e82.2, fun j hj => ?_⟩
  · exact h.1.q (fun q hq => e q (Or.inl hq)) e82.1
  · have r : row40 ν j = row40 μ j := by unfold row40; rw [e 108 (by decide)]
    rw [r]
    exact h.2.2 j hj
theorem m_out {k68 : zS → Int32 → Option (Int32 × zS)} {N : Nat} {μ : zS} {v2 v3 s0 s1 : Int32} {Q : Int32 × zS → Prop} (h : ∀ μ' : zS, (∀ q, q ≠ 82 → q ≠ 113 → q ≠ 115 → μ' q = μ q) → (∀ i, i ≠ 60 → μ' 82 i = μ 82 i) → zp (k68 μ' (v2 + 1)) Q) : zp (zb_M_run_197 k68 N μ v2 v3 s0 s1) Q := by
  have B : ∀ (ν : zS) (v4 : Int32), (∀ q, q ≠ 82 → q ≠ 113 → q ≠ 115 → ν q = μ q) → (∀ i, i ≠ 60 → ν 82 i = μ 82 i) → zp (zb_M_run_250 k68 N ν v2 v4) Q := fun ν v4 a b => by
    unfold zb_M_run_250 zb_M_run_275
    exact zp_ite (fun _ => h ν a b) fun _ => zp_chk fun _ => h _ (fun q x y z => by rw [zu_other x, zu_other z]; exact a q x y z) fun i hi => by rw [zx_up_same, zu_ne hi, zu_other (by decide)]; exact b i hi
  have C : ∀ (n : Nat) (ν : zS) (v4 v5 : Int32), (∀ q, q ≠ 82 → q ≠ 113 → q ≠ 115 → ν q = μ q) → (∀ i, i ≠ 60 → ν 82 i = μ 82 i) → zp (zb_M_run_208 k68 N n ν v2 v4 v5) Q := by
    intro n
    induction n with
    | zero => intro _ _ _ _ _; exact zp_none
    | succ n ih =>
      intro ν v4 v5 a b
      rw [zb_M_run_208]
      unfold zb_M_run_242
      exact zp_ite (fun _ => B ν v4 a b) fun _ => zp_ite (fun _ => B ν v4 a b) fun _ => zp_chk fun _ => zp_bind fun r19 _ => zp_ite (fun _ => ih ν _ _ a b) fun _ => ih ν _ _ a b
  unfold zb_M_run_197 zb_M_run_275
  have a : ∀ q, q ≠ 82 → q ≠ 113 → q ≠ 115 → (zx_up μ 113 s1.toNatClampNeg s0) q = μ q := fun q x y z => zu_other y
  have b : ∀ i, i ≠ 60 → (zx_up μ 113 s1.toNatClampNeg s0) 82 i = μ 82 i := fun i hi => by rw [zu_other (by decide)]
  exact zp_chk fun _ => zp_ite (fun _ => h _ a b) fun _ => C N _ _ _ a b
theorem m_thr {k68 : zS → Int32 → Option (Int32 × zS)} {N m S Te nF : Nat} {len : Nat → Nat} {nc : Nat → Nat → Nat} {ρ : zS} {W : Nat → Nat → Int32} {M : Nat → Nat → Nat} {Q : Int32 × zS → Prop} (Tm : Te ≤ m) (n4 : nF ≤ 4000) (dis : ∀ i j, i < j → j < nF → ¬ SAME5 (W i) (W j)) (suc : ∀ t, t < Te → M S (t + 1) ≤ nF ∧ SUC m len nc ρ W M S t) (kont : ∀ (k : Nat) (μ : zS) (v3 : Int32), RGS m len nc ρ W (M S Te) μ → S < M S Te → zp (zb_M_run_91 k68 N k μ (Int32.ofNat S) v3 (Int32.ofNat Te)) Q) : ∀ (k T : Nat) (μ : zS) (v3 : Int32), T ≤ Te → RGS m len nc ρ W (M S T) μ → S < M S T → M S T ≤ nF → zp (zb_M_run_91 k68 N k μ (Int32.ofNat S) v3 (Int32.ofNat T)) Q := by
  intro k
  induction k with
  | zero => intro _ _ _ _ _ _ _; exact zp_none
  | succ k ih =>
    intro T μ v3 hT rg hS hn
    by_cases c : T = Te
    · subst c; exact kont (k + 1) μ v3 rg hS
    have lt : T < Te := by omega
    obtain ⟨sn, su⟩ := suc T lt
    have pc := rg.1
    have m4 := pc.1.1
    have e17 : μ 82 17 = Int32.ofNat m := pc.1.2.2
    rw [zb_M_run_91, e17]
    unfold zb_M_run_169
    refine zp_ite (fun q => ?_) fun _ => zp_bind (zp_mono (m_load (b := 0) (n := 0) (s := S) (by omega)) fun r22 h22 => ?_)
    · have := (zo_le (k := m) (j := T) (by omega) (by omega)).mp q
      omega
    obtain ⟨fr, row⟩ := h22
    have rg2 : RGS m len nc ρ W (M S T) r22 := rg.of (fun q hq => fr q (by omega)) ⟨by rw [fr 82 (by decide)], by rw [fr 82 (by decide)], by rw [fr 82 (by decide)]⟩
    have pc2 := rg2.1
    have st : ST m len nc ρ (W S) (r22 107) := (rg.2.2 S hS).congr m4 (fun _ _ => rfl) row
    have tm : T < m := by omega
    rw [zo_1 (m := T) (by omega)]
    rcases su with ⟨⟨σ, lo, e⟩, eM⟩ | ⟨⟨a, na, σ, lo, e⟩, j, mv, hj⟩
    · refine zp_bind (zp_mono (p_can pc2 st (lo _ st) (fun _ _ => rfl) tm _ e) fun b hb => ?_)
      refine zp_ite (fun _ => ih (T + 1) r22 v3 (by omega) (by rw [eM]; exact rg2) (by rw [eM]; exact hS) (by rw [eM]; exact hn)) fun q => absurd hb.1.symm q
    · refine zp_bind (zp_mono (p_can pc2 st (lo _ st) (fun _ _ => rfl) tm _ e) fun b hb => ?_)
      obtain ⟨e1, e2, e3⟩ := hb
      have a1 : a = 1 := e2.resolve_left na
      refine zp_ite (fun q => absurd (e1.trans q) na) fun _ => ?_
      obtain ⟨N0, σ0, r0, lo0, e0, same⟩ := mv
      refine zp_bind (zp_mono (p_move (N := N0) (N' := N) pc2 st (lo0 _ st) tm (e3 a1) r0 e0).2 fun r25 h25 => ?_)
      obtain ⟨f25, st25⟩ := h25
      have st25 : ST m len nc ρ (W j) (r25 107) := st25.congr m4 (fun i hi => (same i hi).symm) (fun _ _ => rfl)
      have rg3 : RGS m len nc ρ W (M S T) r25 := rg2.of (fun q hq => f25 q (by omega)) ⟨by rw [f25 82 (by decide)], by rw [f25 82 (by decide)], by rw [f25 82 (by decide)]⟩
      have pc3 := rg3.1
      refine zp_bind (zp_mono (m_put (N := N) rg3.2.1 (st25.byte pc3)) fun r26 h26 => ?_)
      have l24 : ∀ t, t < m → len t ≤ 24 := fun t ht => (pc3.2.1 t ht).1
      rcases h26 with ⟨i, _, hi, e, s⟩ | ⟨no, h26⟩
      · rw [Nat.zero_add] at hi
        rw [e]
        have sw := (rg3.2.2 i hi).bwd m4 st25 s
        have n4' : M S T ≤ 4000 := by omega
        refine zp_ite (fun _ => ?_) fun q => absurd (zo_ne (by omega)) q
        refine zp_ite (fun _ => ?_) fun q => absurd (Int32.le_refl _) q
        rcases hj with ⟨_, eM⟩ | ⟨ej, eM⟩
        · exact ih (T + 1) r25 0 (by omega) (by rw [eM]; exact rg3) (by rw [eM]; exact hS) (by rw [eM]; exact hn)
        · rw [ej] at sw
          exact absurd sw (dis i (M S T) hi (by omega))
      · rcases hj with ⟨lj, eM⟩ | ⟨ej, eM⟩
        · exact absurd ((rg3.2.2 j lj).fwd m4 l24 st25 SAME5.rfl') (no j (Nat.zero_le _) (by omega))
        · rcases h26 with ⟨nn, e, rn⟩ | ⟨nn, _⟩
          · rw [Nat.zero_add] at e
            obtain ⟨rb, rnew, rold, f26, f82⟩ := rn
            rw [Nat.zero_add] at rnew rold
            have rg4 : RGS m len nc ρ W (M S T + 1) r26.2 := by
              refine ⟨pc3.q (fun q hq => f26 q (by omega) (by omega) (by omega) (by omega)) (f82 17 (by decide)), rb, fun i hi => ?_⟩
              · by_cases d : i = M S T
                · rw [d, ← ej]
                  refine st25.congr m4 (fun _ _ => rfl) fun i hi => ?_
                  rw [ej]
                  exact rnew i hi
                · exact (rg3.2.2 i (by omega)).congr m4 (fun _ _ => rfl) (rold i d)
            refine zp_ite (fun _ => zp_ite (fun q => ?_) fun _ => ?_) fun q => absurd (by rw [e]; exact zo_ne (by omega)) q
            · rw [rb.2.2.1, rg3.2.1.2.2.1] at q
              have := (zo_le (k := M S T + 1) (j := M S T) (by omega) (by omega)).mp q
              omega
            · refine zp_chk fun _ => zp_chk fun _ => ih (T + 1) _ 0 (by omega) ?_ (by rw [eM]; omega) (by omega)
              rw [eM]
              exact rg4.of (fun q hq => by rw [zu_other (by omega), zu_other (by omega)]) ⟨by rw [zu_other (by decide), zu_other (by decide)], by rw [zu_other (by decide), zu_other (by decide)], by rw [zu_other (by decide), zu_other (by decide)]⟩
          · omega
theorem m_state {k68 : zS → Int32 → Option (Int32 × zS)} {N m S nF : Nat} {len : Nat → Nat} {nc : Nat → Nat → Nat} {ρ : zS} {W : Nat → Nat → Int32} {M : Nat → Nat → Nat} {Q : Int32 × zS → Prop} (n4 : nF ≤ 4000) (dis : ∀ i j, i < j → j < nF → ¬ SAME5 (W i) (W j)) (suc : ∀ t, t < m → M S (t + 1) ≤ nF ∧ SUC m len nc ρ W M S t) (kk : ∀ μ, RGS m len nc ρ W (M S m) μ → zp (k68 μ (Int32.ofNat (S + 1))) Q) (k : Nat) (μ : zS) (rg : RGS m len nc ρ W (M S 0) μ) (hS : S < M S 0) (hn : M S 0 ≤ nF) : zp (zb_M_run_91 k68 N k μ (Int32.ofNat S) 1 (Int32.ofNat 0)) Q := by
  refine m_thr (Te := m) (Nat.le_refl _) n4 dis suc (fun k μ v3 rg hS' => ?_) k 0 μ 1 (Nat.zero_le _) rg hS hn
  cases k with
  | zero => exact zp_none
  | succ k =>
    have m4 := rg.1.1.1
    rw [zb_M_run_91, rg.1.1.2.2]
    refine zp_ite (fun _ => zp_bind (zp_mono (m_load (b := 0) (n := 0) (s := S) (by omega)) fun r10 h10 => ?_)) fun q => absurd (Int32.le_refl _) q
    obtain ⟨fr, row⟩ := h10
    have rg2 : RGS m len nc ρ W (M S m) r10 := rg.of (fun q hq => fr q (by omega)) ⟨by rw [fr 82 (by decide)], by rw [fr 82 (by decide)], by rw [fr 82 (by decide)]⟩
    have out : ∀ {v3 s0 s1 : Int32}, zp (zb_M_run_197 k68 N r10 (Int32.ofNat S) v3 s0 s1) Q := m_out fun μ' a b => by
      rw [zo_1 (m := S) (by omega)]
      exact kk μ' (rg2.of (fun q hq => a q (by omega) (by omega) (by omega)) ⟨b 17 (by decide), b 51 (by decide), b 52 (by decide)⟩)
    exact zp_ite (fun _ => out) fun _ => zp_bind fun r21 _ => out
theorem m_done {N m nF : Nat} {len : Nat → Nat} {nc : Nat → Nat → Nat} {ρ : zS} {W : Nat → Nat → Int32} {M : Nat → Nat → Nat} (n4 : nF ≤ 4000) (dis : ∀ i j, i < j → j < nF → ¬ SAME5 (W i) (W j)) (mF : M nF 0 = nF) (mS : ∀ s, s < nF → M (s + 1) 0 = M s m) (mB : ∀ s, s < nF → s < M s 0) (suc : ∀ s t, s < nF → t < m → M s (t + 1) ≤ nF ∧ SUC m len nc ρ W M s t) (m0n : M 0 0 ≤ nF) : ∀ (k S : Nat) (μ : zS), S ≤ nF → RGS m len nc ρ W (M S 0) μ → zp (zb_M_run_68 N k μ (Int32.ofNat S)) (fun r => r.1 = Int32.ofNat nF) := by
  have le : ∀ S, S ≤ nF → M S 0 ≤ nF := fun S hS => by
    cases S with
    | zero => exact m0n
    | succ S =>
      rw [mS S (by omega)]
      cases m with
      | zero =>
        have z : ∀ s, s ≤ nF → M s 0 = M 0 0 := fun s => by
          induction s with
          | zero => intro _; rfl
          | succ s ih => intro hs; rw [mS s (by omega)]; exact ih (by omega)
        rw [z S (by omega)]
        exact m0n
      | succ m => exact (suc S m (by omega) (by omega)).1
  intro k
  induction k with
  | zero => intro _ _ _ _; exact zp_none
  | succ k ih =>
    intro S μ hS rg
    have lS := le S hS
    rw [zb_M_run_68, rg.2.1.2.2.1]
    refine zp_ite (fun q => zp_some ?_) fun q => zp_bind fun r7 e7 => zp_bind fun r8 e8 => ?_
    · have q := (zo_le (k := M S 0) (j := S) (by omega) (by omega)).mp q
      by_cases c : S = nF
      · subst c
        show Int32.ofNat (M S 0) = Int32.ofNat S
        rw [mF]
      · have := mB S (by omega)
        omega
    · have lt : S < nF := by
        by_cases c : S < nF
        · exact c
        · have e : S = nF := by omega
          rw [e, mF] at q
          exact absurd (Int32.le_refl _) q
      have b := mB S lt
      obtain ⟨fr, _⟩ := m_load (N := N) (b := 0) (n := 0) (s := S) (μ := μ) (by omega) r7 e7
      have f8 : ∀ q, q ≠ 114 → r8 q = r7 q := ww_f_M_lookForRaces (σ0 := r7) (fun _ _ => rfl) r8 e8
      have ff : ∀ q, q ≠ 107 → q ≠ 114 → r8 q = μ q := fun q x y => (f8 q y).trans (fr q x)
      have rg2 : RGS m len nc ρ W (M S 0) r8 := rg.of (fun q hq => ff q (by omega) (by omega)) ⟨by rw [ff 82 (by decide) (by decide)], by rw [ff 82 (by decide) (by decide)], by rw [ff 82 (by decide) (by decide)]⟩
      refine m_state n4 dis (fun t ht => suc S t lt ht) (fun ν rgn => ih (S + 1) ν (by omega) ?_) N r8 rg2 b lS
      rw [mS S lt]
      exact rgn
theorem m_many {N m Sx Tx : Nat} {len : Nat → Nat} {nc : Nat → Nat → Nat} {ρ : zS} {W : Nat → Nat → Int32} {M : Nat → Nat → Nat} {w' : Nat → Int32} (dis : ∀ i j, i < j → j < 4000 → ¬ SAME5 (W i) (W j)) (Tm : Tx < m) (mT : M Sx Tx = 4000) (mS : ∀ s, s < Sx → M (s + 1) 0 = M s m) (mB : ∀ s, s ≤ Sx → s < M s 0) (suc : ∀ s t, (s < Sx ∧ t < m) ∨ (s = Sx ∧ t < Tx) → M s (t + 1) ≤ 4000 ∧ SUC m len nc ρ W M s t) (m0n : M 0 0 ≤ 4000) (can : ∃ a, ¬ a = 0 ∧ CANV m len nc ρ (W Sx) Tx a) (mv : MOVV m len nc ρ (W Sx) Tx w') (new : ∀ j, j < 4000 → ¬ SAME5 (W j) w') : ∀ (k S : Nat) (μ : zS), S ≤ Sx → RGS m len nc ρ W (M S 0) μ → zp (zb_M_run_68 N k μ (Int32.ofNat S)) (fun r => r.1 = -103) := by
  have le : ∀ S, S ≤ Sx → M S 0 ≤ 4000 := fun S hS => by
    cases S with
    | zero => exact m0n
    | succ S =>
      rw [mS S (by omega)]
      cases m with
      | zero => omega
      | succ m => exact (suc S m (Or.inl ⟨by omega, by omega⟩)).1
  intro k
  induction k with
  | zero => intro _ _ _ _; exact zp_none
  | succ k ih =>
    intro S μ hS rg
    have lS := le S hS
    have b := mB S hS
    rw [zb_M_run_68, rg.2.1.2.2.1]
    refine zp_ite (fun q => ?_) fun q => zp_bind fun r7 e7 => zp_bind fun r8 e8 => ?_
    · have q := (zo_le (k := M S 0) (j := S) (by omega) (by omega)).mp q
      omega
    · obtain ⟨fr, _⟩ := m_load (N := N) (b := 0) (n := 0) (s := S) (μ := μ) (by omega) r7 e7
      have f8 : ∀ q, q ≠ 114 → r8 q = r7 q := ww_f_M_lookForRaces (σ0 := r7) (fun _ _ => rfl) r8 e8
      have ff : ∀ q, q ≠ 107 → q ≠ 114 → r8 q = μ q := fun q x y => (f8 q y).trans (fr q x)
      have rg2 : RGS m len nc ρ W (M S 0) r8 := rg.of (fun q hq => ff q (by omega) (by omega)) ⟨by rw [ff 82 (by decide) (by decide)], by rw [ff 82 (by decide) (by decide)], by rw [ff 82 (by decide) (by decide)]⟩
      by_cases c : S = Sx
      · subst c
        refine m_thr (Te := Tx) (by omega) (Nat.le_refl _) dis (fun t ht => suc S t (Or.inr ⟨rfl, ht⟩)) (fun k' ν v3 rgn hSn => ?_) N 0 r8 1 (Nat.zero_le _) rg2 b lS
        rw [mT] at rgn hSn
        cases k' with
        | zero => exact zp_none
        | succ k' =>
          have pc := rgn.1
          have m4 := pc.1.1
          rw [zb_M_run_91, pc.1.2.2]
          refine zp_ite (fun q => ?_) fun _ => zp_bind (zp_mono (m_load (b := 0) (n := 0) (s := S) (by omega)) fun r22 h22 => ?_)
          · have := (zo_le (k := m) (j := Tx) (by omega) (by omega)).mp q
            omega
          obtain ⟨fr, row⟩ := h22
          have rg3 : RGS m len nc ρ W 4000 r22 := rgn.of (fun q hq => fr q (by omega)) ⟨by rw [fr 82 (by decide)], by rw [fr 82 (by decide)], by rw [fr 82 (by decide)]⟩
          have st : ST m len nc ρ (W S) (r22 107) := (rgn.2.2 S hSn).congr m4 (fun _ _ => rfl) row
          obtain ⟨a, na, σ, lo, e⟩ := can
          refine zp_bind (zp_mono (p_can rg3.1 st (lo _ st) (fun _ _ => rfl) Tm _ e) fun bb hb => ?_)
          obtain ⟨e1, e2, e3⟩ := hb
          refine zp_ite (fun q => absurd (e1.trans q) na) fun _ => ?_
          obtain ⟨N0, σ0, r0, lo0, e0, same⟩ := mv
          refine zp_bind (zp_mono (p_move (N := N0) (N' := N) rg3.1 st (lo0 _ st) Tm (e3 (e2.resolve_left na)) r0 e0).2 fun r25 h25 => ?_)
          obtain ⟨f25, st25⟩ := h25
          have st25 : ST m len nc ρ w' (r25 107) := st25.congr m4 (fun i hi => (same i hi).symm) (fun _ _ => rfl)
          have rg4 : RGS m len nc ρ W 4000 r25 := rg3.of (fun q hq => f25 q (by omega)) ⟨by rw [f25 82 (by decide)], by rw [f25 82 (by decide)], by rw [f25 82 (by decide)]⟩
          refine zp_bind (zp_mono (m_put (N := N) rg4.2.1 (st25.byte rg4.1)) fun r26 h26 => ?_)
          rcases h26 with ⟨i, _, hi, _, s⟩ | ⟨_, ⟨nn, _⟩ | ⟨_, e⟩⟩
          · exact absurd ((rg4.2.2 i (by omega)).bwd m4 st25 s) (new i (by omega))
          · omega
          · rw [e]
            exact zp_ite (fun q => absurd rfl q) fun _ => zp_some rfl
      · refine m_state (Nat.le_refl _) dis (fun t ht => suc S t (Or.inl ⟨by omega, ht⟩)) (fun ν rgn => ih (S + 1) ν (by omega) ?_) N r8 rg2 b lS
        rw [mS S (by omega)]
        exact rgn
