-- both answer alike
set_option maxRecDepth 2000
def RGT (m : Nat) (len : Nat → Nat) (nc : Nat → Nat → Nat) (ρ : zS) (W : Nat → Nat → Int32) (n : Nat) (μ : zS) : Prop := PC m len nc ρ μ ∧ RTB 0 n μ ∧ (∀ j, j < n → ST m len nc ρ (W j) (row40 μ j)) ∧ μ 82 53 = 0
theorem RGT.of {m n : Nat} {len : Nat → Nat} {nc : Nat → Nat → Nat} {ρ μ ν : zS} {W : Nat → Nat → Int32} (h : RGT m len nc ρ W n μ) (e : ∀ q, (90 ≤ q ∧ q ≤ 101) ∨ q = 108 ∨ q = 109 ∨ q = 110 → ν q = μ q) (e82 : ν 82 17 = μ 82 17 ∧ ν 82 51 = μ 82 51 ∧ ν 82 52 = μ 82 52 ∧ ν 82 53 = μ 82 53) : RGT m len nc ρ W n ν := by
  refine ⟨?_, h.2.1.of (fun q hq => e q (by omega)) ⟨e82.2.1, e82.2.2.1⟩, fun j hj => ?_, e82.2.2.2.trans h.2.2.2⟩
  · exact h.1.q (fun q hq => e q (Or.inl hq)) e82.1
  · have r : row40 ν j = row40 μ j := by unfold row40; rw [e 108 (by decide)]
    rw [r]
    exact h.2.2.1 j hj
theorem m_outS {k68 : zS → Int32 → Option (Int32 × zS)} {N : Nat} {μ : zS} {v2 v3 s0 s1 : Int32} {Q : Int32 × zS → Prop} (h : ∀ μ' : zS, (∀ q, q ≠ 82 → q ≠ 113 → q ≠ 115 → μ' q = μ q) → (∀ i, i ≠ 60 → μ' 82 i = μ 82 i) → zp (k68 μ' (v2 + 1)) Q) : zp (zb_M_run_197 k68 N μ v2 v3 s0 s1) Q := by
  have B : ∀ (ν : zS) (v4 : Int32), (∀ q, q ≠ 82 → q ≠ 113 → q ≠ 115 → ν q = μ q) → (∀ i, i ≠ 60 → ν 82 i = μ 82 i) → zp (zb_M_run_250 k68 N ν v2 v4) Q := fun ν v4 a b => by
    unfold zb_M_run_250 zb_M_run_275
    exact zp_ite (fun _ => h ν a b) fun _ => zp_chk fun _ => h _ (fun q x y z => by rw [zu_other x, zu_other z]; exact a q x y z) fun i hi => by rw [zx_up_same, zu_ne hi, zu_other (by decide)]; exact b i hi
  have C : ∀ (n : Nat) (ν : zS) (v4 v5 : Int32), (∀ q, q ≠ 82 → q ≠ 113 → q ≠ 115 → ν q = μ q) → (∀ i, i ≠ 60 → ν 82 i = μ 82 i) → zp (zb_M_run_208 k68 N n ν v2 v4 v5) Q := by
    intro n
    induction n with
    | zero => intro _ _ _ _ _; exact zp_none
    | succ n ih =>
      intro ν v4 v5 a b
      rw [zb_M_run_208]
      unfold zb_M_run_242
      exact zp_ite (fun _ => B ν v4 a b) fun _ => zp_ite (fun _ => B ν v4 a b) fun _ => zp_chk fun _ => zp_bind fun r19 _ => zp_ite (fun _ => ih ν _ _ a b) fun _ => ih ν _ _ a b
  unfold zb_M_run_197 zb_M_run_275
  have a : ∀ q, q ≠ 82 → q ≠ 113 → q ≠ 115 → (zx_up μ 113 s1.toNatClampNeg s0) q = μ q := fun q x y z => zu_other y
  have b : ∀ i, i ≠ 60 → (zx_up μ 113 s1.toNatClampNeg s0) 82 i = μ 82 i := fun i hi => by rw [zu_other (by decide)]
  exact zp_chk fun _ => zp_ite (fun _ => h _ a b) fun _ => C N _ _ _ a b
theorem m_thrS {k68 : zS → Int32 → Option (Int32 × zS)} {N m S Te nF : Nat} {len : Nat → Nat} {nc : Nat → Nat → Nat} {ρ : zS} {W : Nat → Nat → Int32} {M : Nat → Nat → Nat} {Q : Int32 × zS → Prop} (Tm : Te ≤ m) (n4 : nF ≤ 4000) (dis : ∀ i j, i < j → j < nF → ¬ SAME5 (W i) (W j)) (suc : ∀ t, t < Te → M S (t + 1) ≤ nF ∧ SUC m len nc ρ W M S t) (kont : ∀ (k : Nat) (μ : zS) (v3 : Int32), RGT m len nc ρ W (M S Te) μ → S < M S Te → zp (zb_M_run_91 k68 N k μ (Int32.ofNat S) v3 (Int32.ofNat Te)) Q) : ∀ (k T : Nat) (μ : zS) (v3 : Int32), T ≤ Te → RGT m len nc ρ W (M S T) μ → S < M S T → M S T ≤ nF → zp (zb_M_run_91 k68 N k μ (Int32.ofNat S) v3 (Int32.ofNat T)) Q := by
  intro k
  induction k with
  | zero => intro _ _ _ _ _ _ _; exact zp_none
  | succ k ih =>
    intro T μ v3 hT rg hS hn
    by_cases c : T = Te
    · subst c; exact kont (k + 1) μ v3 rg hS
    have lt : T < Te := by omega
    obtain ⟨sn, su⟩ := suc T lt
    have pc := rg.1
    have m4 := pc.1.1
    have e17 : μ 82 17 = Int32.ofNat m := pc.1.2.2
    rw [zb_M_run_91, e17]
    unfold zb_M_run_169
    refine zp_ite (fun q => ?_) fun _ => zp_bind (zp_mono (m_load (b := 0) (n := 0) (s := S) (by omega)) fun r22 h22 => ?_)
    · have := (zo_le (k := m) (j := T) (by omega) (by omega)).mp q
      omega
    obtain ⟨fr, row⟩ := h22
    have rg2 : RGT m len nc ρ W (M S T) r22 := rg.of (fun q hq => fr q (by omega)) ⟨by rw [fr 82 (by decide)], by rw [fr 82 (by decide)], by rw [fr 82 (by decide)], by rw [fr 82 (by decide)]⟩
    have pc2 := rg2.1
    have st : ST m len nc ρ (W S) (r22 107) := (rg.2.2.1 S hS).congr m4 (fun _ _ => rfl) row
    have tm : T < m := by omega
    rw [zo_1 (m := T) (by omega)]
    rcases su with ⟨⟨σ, lo, e⟩, eM⟩ | ⟨⟨a, na, σ, lo, e⟩, j, mv, hj⟩
    · refine zp_bind (zp_mono (p_can pc2 st (lo _ st) (fun _ _ => rfl) tm _ e) fun b hb => ?_)
      refine zp_ite (fun _ => ih (T + 1) r22 v3 (by omega) (by rw [eM]; exact rg2) (by rw [eM]; exact hS) (by rw [eM]; exact hn)) fun q => absurd hb.1.symm q
    · refine zp_bind (zp_mono (p_can pc2 st (lo _ st) (fun _ _ => rfl) tm _ e) fun b hb => ?_)
      obtain ⟨e1, e2, e3⟩ := hb
      have a1 : a = 1 := e2.resolve_left na
      refine zp_ite (fun q => absurd (e1.trans q) na) fun _ => ?_
      obtain ⟨N0, σ0, r0, lo0, e0, same⟩ := mv
      refine zp_bind (zp_mono (p_move (N := N0) (N' := N) pc2 st (lo0 _ st) tm (e3 a1) r0 e0).2 fun r25 h25 => ?_)
      obtain ⟨f25, st25⟩ := h25
      have st25 : ST m len nc ρ (W j) (r25 107) := st25.congr m4 (fun i hi => (same i hi).symm) (fun _ _ => rfl)
      have rg3 : RGT m len nc ρ W (M S T) r25 := rg2.of (fun q hq => f25 q (by omega)) ⟨by rw [f25 82 (by decide)], by rw [f25 82 (by decide)], by rw [f25 82 (by decide)], by rw [f25 82 (by decide)]⟩
      have pc3 := rg3.1
      refine zp_bind (zp_mono (m_put (N := N) rg3.2.1 (st25.byte pc3)) fun r26 h26 => ?_)
      have l24 : ∀ t, t < m → len t ≤ 24 := fun t ht => (pc3.2.1 t ht).1
      rcases h26 with ⟨i, _, hi, e, s⟩ | ⟨no, h26⟩
      · rw [Nat.zero_add] at hi
        rw [e]
        have sw := (rg3.2.2.1 i hi).bwd m4 st25 s
        have n4' : M S T ≤ 4000 := by omega
        refine zp_ite (fun _ => ?_) fun q => absurd (zo_ne (by omega)) q
        refine zp_ite (fun _ => ?_) fun q => absurd (Int32.le_refl _) q
        rcases hj with ⟨_, eM⟩ | ⟨ej, eM⟩
        · exact ih (T + 1) r25 0 (by omega) (by rw [eM]; exact rg3) (by rw [eM]; exact hS) (by rw [eM]; exact hn)
        · rw [ej] at sw
          exact absurd sw (dis i (M S T) hi (by omega))
      · rcases hj with ⟨lj, eM⟩ | ⟨ej, eM⟩
        · exact absurd ((rg3.2.2.1 j lj).fwd m4 l24 st25 SAME5.rfl') (no j (Nat.zero_le _) (by omega))
        · rcases h26 with ⟨nn, e, rn⟩ | ⟨nn, _⟩
          · rw [Nat.zero_add] at e
            obtain ⟨rb, rnew, rold, f26, f82⟩ := rn
            rw [Nat.zero_add] at rnew rold
            have rg4 : RGT m len nc ρ W (M S T + 1) r26.2 := by
              refine ⟨pc3.q (fun q hq => f26 q (by omega) (by omega) (by omega) (by omega)) (f82 17 (by decide)), rb, fun i hi => ?_, (f82 53 (by decide)).trans rg3.2.2.2⟩
              · by_cases d : i = M S T
                · rw [d, ← ej]
                  refine st25.congr m4 (fun _ _ => rfl) fun i hi => ?_
                  rw [ej]
                  exact rnew i hi
                · exact (rg3.2.2.1 i (by omega)).congr m4 (fun _ _ => rfl) (rold i d)
            refine zp_ite (fun _ => zp_ite (fun q => ?_) fun _ => ?_) fun q => absurd (by rw [e]; exact zo_ne (by omega)) q
            · rw [rb.2.2.1, rg3.2.1.2.2.1] at q
              have := (zo_le (k := M S T + 1) (j := M S T) (by omega) (by omega)).mp q
              omega
            · refine zp_chk fun _ => zp_chk fun _ => ih (T + 1) _ 0 (by omega) ?_ (by rw [eM]; omega) (by omega)
              rw [eM]
              exact rg4.of (fun q hq => by rw [zu_other (by omega), zu_other (by omega)]) ⟨by rw [zu_other (by decide), zu_other (by decide)], by rw [zu_other (by decide), zu_other (by decide)], by rw [zu_other (by decide), zu_other (by decide)], by rw [zu_other (by decide), zu_other (by decide)]⟩
          · omega
theorem m_stateS {k68 : zS → Int32 → Option (Int32 × zS)} {N m S nF : Nat} {len : Nat → Nat} {nc : Nat → Nat → Nat} {ρ : zS} {W : Nat → Nat → Int32} {M : Nat → Nat → Nat} {Q : Int32 × zS → Prop} (n4 : nF ≤ 4000) (dis : ∀ i j, i < j → j < nF → ¬ SAME5 (W i) (W j)) (suc : ∀ t, t < m → M S (t + 1) ≤ nF ∧ SUC m len nc ρ W M S t) (kk : ∀ μ, RGT m len nc ρ W (M S m) μ → zp (k68 μ (Int32.ofNat (S + 1))) Q) (k : Nat) (μ : zS) (rg : RGT m len nc ρ W (M S 0) μ) (hS : S < M S 0) (hn : M S 0 ≤ nF) : zp (zb_M_run_91 k68 N k μ (Int32.ofNat S) 1 (Int32.ofNat 0)) Q := by
  refine m_thrS (Te := m) (Nat.le_refl _) n4 dis suc (fun k μ v3 rg hS' => ?_) k 0 μ 1 (Nat.zero_le _) rg hS hn
  cases k with
  | zero => exact zp_none
  | succ k =>
    have m4 := rg.1.1.1
    rw [zb_M_run_91, rg.1.1.2.2]
    refine zp_ite (fun _ => zp_bind (zp_mono (m_load (b := 0) (n := 0) (s := S) (by omega)) fun r10 h10 => ?_)) fun q => absurd (Int32.le_refl _) q
    obtain ⟨fr, row⟩ := h10
    have rg2 : RGT m len nc ρ W (M S m) r10 := rg.of (fun q hq => fr q (by omega)) ⟨by rw [fr 82 (by decide)], by rw [fr 82 (by decide)], by rw [fr 82 (by decide)], by rw [fr 82 (by decide)]⟩
    have out : ∀ {v3 s0 s1 : Int32}, zp (zb_M_run_197 k68 N r10 (Int32.ofNat S) v3 s0 s1) Q := m_outS fun μ' a b => by
      rw [zo_1 (m := S) (by omega)]
      exact kk μ' (rg2.of (fun q hq => a q (by omega) (by omega) (by omega)) ⟨b 17 (by decide), b 51 (by decide), b 52 (by decide), b 53 (by decide)⟩)
    exact zp_ite (fun _ => out) fun _ => zp_bind fun r21 _ => out
theorem m_doneS {N m nF : Nat} {len : Nat → Nat} {nc : Nat → Nat → Nat} {ρ : zS} {W : Nat → Nat → Int32} {M : Nat → Nat → Nat} (n4 : nF ≤ 4000) (dis : ∀ i j, i < j → j < nF → ¬ SAME5 (W i) (W j)) (mF : M nF 0 = nF) (mS : ∀ s, s < nF → M (s + 1) 0 = M s m) (mB : ∀ s, s < nF → s < M s 0) (suc : ∀ s t, s < nF → t < m → M s (t + 1) ≤ nF ∧ SUC m len nc ρ W M s t) (m0n : M 0 0 ≤ nF) : ∀ (k S : Nat) (μ : zS), S ≤ nF → RGT m len nc ρ W (M S 0) μ → zp (zb_M_run_68 N k μ (Int32.ofNat S)) (fun r => r.1 = Int32.ofNat nF ∧ r.2 82 53 = 1 ∧ r.2 82 54 = Int32.ofNat nF ∧ ∀ j, j < nF → ST m len nc ρ (W j) (row40 r.2 j)) := by
  have le : ∀ S, S ≤ nF → M S 0 ≤ nF := fun S hS => by
    cases S with
    | zero => exact m0n
    | succ S =>
      rw [mS S (by omega)]
      cases m with
      | zero =>
        have z : ∀ s, s ≤ nF → M s 0 = M 0 0 := fun s => by
          induction s with
          | zero => intro _; rfl
          | succ s ih => intro hs; rw [mS s (by omega)]; exact ih (by omega)
        rw [z S (by omega)]
        exact m0n
      | succ m => exact (suc S m (by omega) (by omega)).1
  intro k
  induction k with
  | zero => intro _ _ _ _; exact zp_none
  | succ k ih =>
    intro S μ hS rg
    have lS := le S hS
    rw [zb_M_run_68, rg.2.1.2.2.1]
    refine zp_ite (fun q => zp_some ?_) fun q => zp_bind fun r7 e7 => zp_bind fun r8 e8 => ?_
    · have q := (zo_le (k := M S 0) (j := S) (by omega) (by omega)).mp q
      by_cases c : S = nF
      · subst c
        dsimp only
        refine ⟨by rw [mF], by rw [zx_up_same, zu_eq], by rw [zx_up_same, zu_ne (by decide), zx_up_same, zu_eq, mF], fun j hj => ?_⟩
        have r : row40 (zx_up (zx_up μ 82 54 (Int32.ofNat (M S 0))) 82 53 1) j = row40 μ j := by
          unfold row40
          rw [zu_other (by decide), zu_other (by decide)]
        rw [r]
        exact rg.2.2.1 j (by rw [mF]; exact hj)
      · have := mB S (by omega)
        omega
    · have lt : S < nF := by
        by_cases c : S < nF
        · exact c
        · have e : S = nF := by omega
          rw [e, mF] at q
          exact absurd (Int32.le_refl _) q
      have b := mB S lt
      obtain ⟨fr, _⟩ := m_load (N := N) (b := 0) (n := 0) (s := S) (μ := μ) (by omega) r7 e7
      have f8 : ∀ q, q ≠ 114 → r8 q = r7 q := ww_f_M_lookForRaces (σ0 := r7) (fun _ _ => rfl) r8 e8
      have ff : ∀ q, q ≠ 107 → q ≠ 114 → r8 q = μ q := fun q x y => (f8 q y).trans (fr q x)
      have rg2 : RGT m len nc ρ W (M S 0) r8 := rg.of (fun q hq => ff q (by omega) (by omega)) ⟨by rw [ff 82 (by decide) (by decide)], by rw [ff 82 (by decide) (by decide)], by rw [ff 82 (by decide) (by decide)], by rw [ff 82 (by decide) (by decide)]⟩
      refine m_stateS n4 dis (fun t ht => suc S t lt ht) (fun ν rgn => ih (S + 1) ν (by omega) ?_) N r8 rg2 b lS
      rw [mS S lt]
      exact rgn
theorem m_manyS {N m Sx Tx : Nat} {len : Nat → Nat} {nc : Nat → Nat → Nat} {ρ : zS} {W : Nat → Nat → Int32} {M : Nat → Nat → Nat} {w' : Nat → Int32} (dis : ∀ i j, i < j → j < 4000 → ¬ SAME5 (W i) (W j)) (Tm : Tx < m) (mT : M Sx Tx = 4000) (mS : ∀ s, s < Sx → M (s + 1) 0 = M s m) (mB : ∀ s, s ≤ Sx → s < M s 0) (suc : ∀ s t, (s < Sx ∧ t < m) ∨ (s = Sx ∧ t < Tx) → M s (t + 1) ≤ 4000 ∧ SUC m len nc ρ W M s t) (m0n : M 0 0 ≤ 4000) (can : ∃ a, ¬ a = 0 ∧ CANV m len nc ρ (W Sx) Tx a) (mv : MOVV m len nc ρ (W Sx) Tx w') (new : ∀ j, j < 4000 → ¬ SAME5 (W j) w') : ∀ (k S : Nat) (μ : zS), S ≤ Sx → RGT m len nc ρ W (M S 0) μ → zp (zb_M_run_68 N k μ (Int32.ofNat S)) (fun r => r.1 = -103 ∧ r.2 82 53 = 0) := by
  have le : ∀ S, S ≤ Sx → M S 0 ≤ 4000 := fun S hS => by
    cases S with
    | zero => exact m0n
    | succ S =>
      rw [mS S (by omega)]
      cases m with
      | zero => omega
      | succ m => exact (suc S m (Or.inl ⟨by omega, by omega⟩)).1
  intro k
  induction k with
  | zero => intro _ _ _ _; exact zp_none
  | succ k ih =>
    intro S μ hS rg
    have lS := le S hS
    have b := mB S hS
    rw [zb_M_run_68, rg.2.1.2.2.1]
    refine zp_ite (fun q => ?_) fun q => zp_bind fun r7 e7 => zp_bind fun r8 e8 => ?_
    · have q := (zo_le (k := M S 0) (j := S) (by omega) (by omega)).mp q
      omega
    · obtain ⟨fr, _⟩ := m_load (N := N) (b := 0) (n := 0) (s := S) (μ := μ) (by omega) r7 e7
      have f8 : ∀ q, q ≠ 114 → r8 q = r7 q := ww_f_M_lookForRaces (σ0 := r7) (fun _ _ => rfl) r8 e8
      have ff : ∀ q, q ≠ 107 → q ≠ 114 → r8 q = μ q := fun q x y => (f8 q y).trans (fr q x)
      have rg2 : RGT m len nc ρ W (M S 0) r8 := rg.of (fun q hq => ff q (by omega) (by omega)) ⟨by rw [ff 82 (by decide) (by decide)], by rw [ff 82 (by decide) (by decide)], by rw [ff 82 (by decide) (by decide)], by rw [ff 82 (by decide) (by decide)]⟩
      by_cases c : S = Sx
      · subst c
        refine m_thrS (Te := Tx) (by omega) (Nat.le_refl _) dis (fun t ht => suc S t (Or.inr ⟨rfl, ht⟩)) (fun k' ν v3 rgn hSn => ?_) N 0 r8 1 (Nat.zero_le _) rg2 b lS
        rw [mT] at rgn hSn
        cases k' with
        | zero => exact zp_none
        | succ k' =>
          have pc := rgn.1
          have m4 := pc.1.1
          rw [zb_M_run_91, pc.1.2.2]
          refine zp_ite (fun q => ?_) fun _ => zp_bind (zp_mono (m_load (b := 0) (n := 0) (s := S) (by omega)) fun r22 h22 => ?_)
          · have := (zo_le (k := m) (j := Tx) (by omega) (by omega)).mp q
            omega
          obtain ⟨fr, row⟩ := h22
          have rg3 : RGT m len nc ρ W 4000 r22 := rgn.of (fun q hq => fr q (by omega)) ⟨by rw [fr 82 (by decide)], by rw [fr 82 (by decide)], by rw [fr 82 (by decide)], by rw [fr 82 (by decide)]⟩
          have st : ST m len nc ρ (W S) (r22 107) := (rgn.2.2.1 S hSn).congr m4 (fun _ _ => rfl) row
          obtain ⟨a, na, σ, lo, e⟩ := can
          refine zp_bind (zp_mono (p_can rg3.1 st (lo _ st) (fun _ _ => rfl) Tm _ e) fun bb hb => ?_)
          obtain ⟨e1, e2, e3⟩ := hb
          refine zp_ite (fun q => absurd (e1.trans q) na) fun _ => ?_
          obtain ⟨N0, σ0, r0, lo0, e0, same⟩ := mv
          refine zp_bind (zp_mono (p_move (N := N0) (N' := N) rg3.1 st (lo0 _ st) Tm (e3 (e2.resolve_left na)) r0 e0).2 fun r25 h25 => ?_)
          obtain ⟨f25, st25⟩ := h25
          have st25 : ST m len nc ρ w' (r25 107) := st25.congr m4 (fun i hi => (same i hi).symm) (fun _ _ => rfl)
          have rg4 : RGT m len nc ρ W 4000 r25 := rg3.of (fun q hq => f25 q (by omega)) ⟨by rw [f25 82 (by decide)], by rw [f25 82 (by decide)], by rw [f25 82 (by decide)], by rw [f25 82 (by decide)]⟩
          refine zp_bind (zp_mono (m_put (N := N) rg4.2.1 (st25.byte rg4.1)) fun r26 h26 => ?_)
          rcases h26 with ⟨i, _, hi, _, s⟩ | ⟨_, ⟨nn, _⟩ | ⟨_, e⟩⟩
          · exact absurd ((rg4.2.2.1 i (by omega)).bwd m4 st25 s) (new i (by omega))
          · omega
          · rw [e]
            exact zp_ite (fun q => absurd rfl q) fun _ => zp_some ⟨rfl, rg4.2.2.2⟩
      · refine m_stateS (Nat.le_refl _) dis (fun t ht => suc S t (Or.inl ⟨by omega, ht⟩)) (fun ν rgn => ih (S + 1) ν (by omega) ?_) N r8 rg2 b lS
        rw [mS S (by omega)]
        exact rgn
def FNS (m : Nat) (len : Nat → Nat) (nc : Nat → Nat → Nat) (ρ : zS) (ok : Prop) (sz : Int32) (R : Nat → Nat → Int32) : Prop := (ok ∧ ∃ n W, (∀ j, j < n → SAME5 (R j) (W j)) ∧ n ≤ 4000 ∧ 0 < n ∧ sz = Int32.ofNat n ∧ FSTW ρ (W 0) ∧ (∀ i j, i < j → j < n → ¬ SAME5 (W i) (W j)) ∧ TRQ m len nc ρ W n n) ∨ (¬ ok ∧ ∃ W, FSTW ρ (W 0) ∧ (∀ i j, i < j → j < 4000 → ¬ SAME5 (W i) (W j)) ∧ MNY m len nc ρ W)
theorem c_exploreS {N m : Nat} {len : Nat → Nat} {nc : Nat → Nat → Nat} {ρ μ σ : zS} (pc : PC m len nc ρ μ) (e : ∀ q, 4 ≤ q → q ≤ 16 → σ q = ρ q) : zp (zf_Space_explore N σ (-1)) (fun r => (r.1 = 0 ∨ r.1 = 1) ∧ FNS m len nc ρ (r.1 = 1) (r.2 41 6) (row5 r.2) ∧ (∀ q, (q < 36 ∨ 45 < q) → r.2 q = σ q)) := by
  unfold zf_Space_explore
  refine zp_bind (zp_mono c_fill45 fun r1 h1 => zp_bind (zp_mono c_setFirst fun r2 h2 => ?_))
  obtain ⟨f1, z1⟩ := h1
  obtain ⟨f2, fs⟩ := h2
  have p2 : ∀ q, 4 ≤ q → q ≤ 16 → r2 q = ρ q := fun q a b => by rw [f2 q (by omega), f1 q (by omega), zu_other (by omega)]; exact e q a b
  have z45 : ∀ p, p < 8192 → r2 45 p = 0 := fun p hp => by rw [f2 45 (by decide)]; exact z1 p hp
  have ff : ∀ q, (q < 36 ∨ 45 < q) → r2 q = σ q := fun q hq => by rw [f2 q (by omega), f1 q (by omega), zu_other (by omega)]
  have fs' : FSTW ρ (r2 40) := by
    unfold FSTW hw0 at *
    have g : ∀ q, 4 ≤ q → q ≤ 16 → r1 q = ρ q := fun q a b => by rw [f1 q (by omega), zu_other (by omega)]; exact e q a b
    rw [g 4 (by decide) (by decide), g 5 (by decide) (by decide), g 6 (by decide) (by decide)] at fs
    exact fs
  have gs : GST ρ 0 (fun _ _ => 0) r2 := ⟨p2, ⟨by omega, by rw [f2 41 (by decide), f1 41 (by decide), zx_up_same, zu_eq]; rfl, fun p hp => Or.inl (z45 p hp), fun s hs => absurd hs (Nat.not_lt_zero _), fun p q hp _ np => absurd (z45 p hp) np⟩, fun j hj => absurd hj (Nat.not_lt_zero _), fun i j _ hj => absurd hj (Nat.not_lt_zero _)⟩
  refine zp_bind (zp_mono (c_noteG gs) fun r3 h3 => ?_)
  rcases h3 with ⟨_, j, hj, _⟩ | ⟨_, ⟨_, e1, gs1, fr, _⟩ | ⟨n4, _⟩⟩
  · exact absurd hj (Nat.not_lt_zero _)
  · rw [e1]
    have W0 : (fun j => if j = 0 then r2 40 else (fun _ _ => (0 : Int32)) j) 0 = r2 40 := if_pos rfl
    generalize (fun j => if j = 0 then r2 40 else (fun _ _ => (0 : Int32)) j) = W at *
    have tq : TRQ m len nc ρ W 0 1 := ⟨fun _ _ => 1, rfl, rfl, fun s hs => absurd hs (Nat.not_lt_zero _), fun s hs => absurd hs (Nat.not_lt_zero _), fun s t hs => absurd hs (Nat.not_lt_zero _)⟩
    refine zp_mono (c_loop (N := N) pc N 0 r3.2 1 W (by omega) gs1 tq) fun r hr => ?_
    have fin : ∀ q, (q < 36 ∨ 45 < q) → r.2 q = σ q := fun q hq => (hr.2 q hq).trans ((fr q (by omega) (by omega) (by omega) (by omega)).trans (ff q hq))
    rcases hr.1 with ⟨e, n, W', w0, gs', tr⟩ | ⟨e, W', w0, gs', mn⟩
    · have pos : 0 < n := by
        obtain ⟨M, m0, mT, _⟩ := tr
        by_cases c : n = 0
        · subst c; omega
        · omega
      refine ⟨Or.inr e, Or.inl ⟨e, n, W', gs'.2.2.1, gs'.2.1.1, pos, gs'.2.1.2.1, by rw [w0, W0]; exact fs', gs'.2.2.2, tr⟩, fin⟩
    · exact ⟨Or.inl e, Or.inr ⟨by rw [e]; decide, W', by rw [w0, W0]; exact fs', gs'.2.2.2, mn⟩, fin⟩
  · omega
theorem m_runS {N m c0 : Nat} {len : Nat → Nat} {nc : Nat → Nat → Nat} {ρ μ : zS} {ok : Prop} {sz : Int32} {R : Nat → Nat → Int32} (h21 : ¬ μ 82 21 = 0) (pc : PC m len nc ρ μ) (fl : FLV ρ μ) (e40 : ρ 4 0 = Int32.ofNat c0) (e15 : μ 82 15 = Int32.ofNat c0) (c6 : c0 ≤ 6) (sta : STA m len ρ) (fn : FNS m len nc ρ ok sz R) : zp (zf_M_run N μ) (fun s => (ok → s.1 = sz ∧ s.2 82 53 = 1 ∧ s.2 82 54 = sz ∧ ∃ n, n ≤ 4000 ∧ sz = Int32.ofNat n ∧ ∀ j, j < n → ST m len nc ρ (R j) (row40 s.2 j)) ∧ (¬ ok → s.1 = -103 ∧ s.2 82 53 = 0)) := by
  have m4 := pc.1.1
  unfold zf_M_run
  refine zp_ite (fun _ => zp_bind (zp_mono (m_forget (b := 0) (by omega)) fun r2 h2 => ?_)) fun q => absurd h21 (fun n => q n)
  obtain ⟨rb, f2, g2⟩ := h2
  refine m_37 (μ := zx_up r2 82 60 0) (fun ν fr => ?_) N _ 0 fun _ _ => rfl
  have q82 : ∀ i, i ≠ 0 → i ≠ 53 → i ≠ 62 → i ≠ 51 → i ≠ 52 → i ≠ 60 → ν 82 i = μ 82 i := fun i a b c d e f => by
    rw [fr 82 (by decide), zx_up_same, zu_ne f, g2 i d e, zx_up_same, zu_ne c, zx_up_same, zu_ne b, zx_up_same, zu_ne a]
  have qq : ∀ q, q ≠ 82 → q ≠ 109 → q ≠ 114 → ν q = μ q := fun q a b c => by
    rw [fr q c, zu_other a, f2 q a b, zu_other a, zu_other a, zu_other a]
  have pc1 : PC m len nc ρ ν := pc.q (fun q hq => qq q (by omega) (by omega) (by omega)) (q82 17 (by decide) (by decide) (by decide) (by decide) (by decide) (by decide))
  have fl1 : FLV ρ ν := fl.of rfl rfl (qq 89 (by decide) (by decide) (by decide))
  have e151 : ν 82 15 = Int32.ofNat c0 := (q82 15 (by decide) (by decide) (by decide) (by decide) (by decide) (by decide)).trans e15
  have rb1 : RTB 0 0 ν := rb.of (fun q hq => by rw [fr q (by omega), zu_other (by omega)]) ⟨by rw [fr 82 (by decide), zx_up_same, zu_ne (by decide)], by rw [fr 82 (by decide), zx_up_same, zu_ne (by decide)]⟩
  have z53 : ν 82 53 = 0 := by rw [fr 82 (by decide), zx_up_same, zu_ne (by decide), g2 53 (by decide) (by decide), zx_up_same, zu_ne (by decide), zx_up_same, zu_eq]
  have go : ∀ (W : Nat → Nat → Int32) {Q : Int32 × zS → Prop}, FSTW ρ (W 0) → (∀ ν1, RGT m len nc ρ W 1 ν1 → zp (zb_M_run_68 N N ν1 0) Q) → zp ((zf_M_firstState N ν).bind fun r4 => (zf_M_put N r4).bind fun r5 => zb_M_run_68 N N r5.2 0) Q := by
    intro W Q fw k
    refine zp_bind (zp_mono (m_first pc1 fl1 e40 e151 c6 sta fw) fun r4 h4 => ?_)
    obtain ⟨f4, st⟩ := h4
    have pc4 := pc1.f f4
    have rb4 : RTB 0 0 r4 := rb1.of (fun q hq => f4 q (by omega)) ⟨by rw [f4 82 (by decide)], by rw [f4 82 (by decide)]⟩
    refine zp_bind (zp_mono (m_put rb4 (st.byte pc4)) fun r5 h5 => k r5.2 ?_)
    rcases h5 with ⟨s, _, hs, _⟩ | ⟨_, ⟨_, _, rn⟩ | ⟨nn, _⟩⟩
    · exact absurd hs (by omega)
    · obtain ⟨rb5, rnew, _, f5, g5⟩ := rn
      refine ⟨pc4.q (fun q hq => f5 q (by omega) (by omega) (by omega) (by omega)) (g5 17 (by decide)), rb5, fun j hj => ?_, ?_⟩
      · have j0 : j = 0 := by omega
        subst j0
        exact st.congr m4 (fun _ _ => rfl) rnew
      · rw [g5 53 (by decide), f4 82 (by decide)]
        exact z53
    · omega
  rcases fn with ⟨hok, n, W, same, n4, pos, e, fw, dis, M, m0, mT, mS, mB, ms⟩ | ⟨hno, W, fw, dis, S, T, S4, Tm, ⟨M, m0, mT, mS, mB, ms⟩, can, w', mv, new⟩
  · refine go W fw fun ν1 rg => ?_
    refine zp_mono (m_doneS (N := N) n4 dis mT mS mB (fun s t hs ht => (ms s t hs ht).2) (by omega) N 0 ν1 (by omega) (by rw [m0]; exact rg)) fun r hr => ⟨fun _ => ?_, fun q => absurd hok q⟩
    obtain ⟨r1, r2, r3, r4⟩ := hr
    exact ⟨by rw [r1, e], r2, by rw [r3, e], n, n4, e, fun j hj => (r4 j hj).congr m4 (same j hj) (fun _ _ => rfl)⟩
  · refine go W fw fun ν1 rg => ?_
    exact zp_mono (m_manyS (N := N) dis Tm mT mS mB (fun s t k => (ms s t k).2) (by omega) can mv new N 0 ν1 (by omega) (by rw [m0]; exact rg)) fun r hr => ⟨fun q => absurd q hno, fun _ => hr⟩
