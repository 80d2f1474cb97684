-- both answer alike
set_option maxRecDepth 2000
def KND (m : Nat) (v : Int32) (x : Nat → Int32) (k : Int32) : Prop := (v = 0 ∧ k = 0) ∨ (v = 1 ∧ ((k = 1 ∧ ∀ t, t < m → x (15 + 6 * t) = 4 ∨ x (15 + 6 * t) = 5 ∨ x (15 + 6 * t) = 0) ∨ (k = 2 ∧ ∃ t, t < m ∧ ¬ (x (15 + 6 * t) = 4 ∨ x (15 + 6 * t) = 5 ∨ x (15 + 6 * t) = 0))))
def RGX (m : Nat) (len : Nat → Nat) (nc : Nat → Nat → Nat) (ρ : zS) (W : Nat → Nat → Int32) (V : Nat → Nat → Int32) (P Q : Nat → Nat) (S n : Nat) (μ : zS) : Prop := PC m len nc ρ μ ∧ RTB 0 n μ ∧ (∀ j, j < n → ST m len nc ρ (W j) (row40 μ j)) ∧ μ 82 53 = 0 ∧ (∀ j, 0 < j → j < n → μ 111 j = Int32.ofNat (P j) ∧ μ 112 j = Int32.ofNat (Q j)) ∧ (∀ s, s < S → KND m (V s m) (row40 μ s) (μ 113 s))
theorem RGX.of {m S n : Nat} {len : Nat → Nat} {nc : Nat → Nat → Nat} {ρ μ ν : zS} {W : Nat → Nat → Int32} {V : Nat → Nat → Int32} {P Q : Nat → Nat} (h : RGX m len nc ρ W V P Q S n μ) (e : ∀ q, (90 ≤ q ∧ q ≤ 101) ∨ q = 108 ∨ q = 109 ∨ q = 110 ∨ q = 111 ∨ q = 112 ∨ q = 113 → ν q = μ q) (e82 : ν 82 17 = μ 82 17 ∧ ν 82 51 = μ 82 51 ∧ ν 82 52 = μ 82 52 ∧ ν 82 53 = μ 82 53) : RGX m len nc ρ W V P Q S n ν := by
  have r : ∀ j, row40 ν j = row40 μ j := fun j => by unfold row40; rw [e 108 (by decide)]
  refine ⟨h.1.q (fun q hq => e q (Or.inl hq)) e82.1, h.2.1.of (fun q hq => e q (by omega)) ⟨e82.2.1, e82.2.2.1⟩, fun j hj => ?_, e82.2.2.2.trans h.2.2.2.1, fun j a b => ?_, fun s hs => ?_⟩
  · rw [r]
    exact h.2.2.1 j hj
  · rw [e 111 (by decide), e 112 (by decide)]
    exact h.2.2.2.2.1 j a b
  · rw [r, e 113 (by decide)]
    exact h.2.2.2.2.2 s hs
theorem m_outX {k68 : zS → Int32 → Option (Int32 × zS)} {N : Nat} {μ : zS} {v2 v3 s0 s1 : Int32} {R : Int32 × zS → Prop} (h : ∀ μ' : zS, (∀ q, q ≠ 82 → q ≠ 113 → q ≠ 115 → μ' q = μ q) → (∀ i, i ≠ 60 → μ' 82 i = μ 82 i) → μ' 113 = zu (μ 113) s1.toNatClampNeg s0 → zp (k68 μ' (v2 + 1)) R) : zp (zb_M_run_197 k68 N μ v2 v3 s0 s1) R := by
  have B : ∀ (ν : zS) (v4 : Int32), (∀ q, q ≠ 82 → q ≠ 113 → q ≠ 115 → ν q = μ q) → (∀ i, i ≠ 60 → ν 82 i = μ 82 i) → ν 113 = zu (μ 113) s1.toNatClampNeg s0 → zp (zb_M_run_250 k68 N ν v2 v4) R := fun ν v4 a b c => by
    unfold zb_M_run_250 zb_M_run_275
    exact zp_ite (fun _ => h ν a b c) fun _ => zp_chk fun _ => h _ (fun q x y z => by rw [zu_other x, zu_other z]; exact a q x y z) (fun i hi => by rw [zx_up_same, zu_ne hi, zu_other (by decide)]; exact b i hi) (by rw [zu_other (by decide), zu_other (by decide)]; exact c)
  have C : ∀ (n : Nat) (ν : zS) (v4 v5 : Int32), (∀ q, q ≠ 82 → q ≠ 113 → q ≠ 115 → ν q = μ q) → (∀ i, i ≠ 60 → ν 82 i = μ 82 i) → ν 113 = zu (μ 113) s1.toNatClampNeg s0 → zp (zb_M_run_208 k68 N n ν v2 v4 v5) R := by
    intro n
    induction n with
    | zero => intro _ _ _ _ _ _; exact zp_none
    | succ n ih =>
      intro ν v4 v5 a b c
      rw [zb_M_run_208]
      unfold zb_M_run_242
      exact zp_ite (fun _ => B ν v4 a b c) fun _ => zp_ite (fun _ => B ν v4 a b c) fun _ => zp_chk fun _ => zp_bind fun r19 _ => zp_ite (fun _ => ih ν _ _ a b c) fun _ => ih ν _ _ a b c
  unfold zb_M_run_197 zb_M_run_275
  have a : ∀ q, q ≠ 82 → q ≠ 113 → q ≠ 115 → (zx_up μ 113 s1.toNatClampNeg s0) q = μ q := fun q x y z => zu_other y
  have b : ∀ i, i ≠ 60 → (zx_up μ 113 s1.toNatClampNeg s0) 82 i = μ 82 i := fun i hi => by rw [zu_other (by decide)]
  have c : (zx_up μ 113 s1.toNatClampNeg s0) 113 = zu (μ 113) s1.toNatClampNeg s0 := zx_up_same ..
  exact zp_chk fun _ => zp_ite (fun _ => h _ a b c) fun _ => C N _ _ _ a b c
theorem m_lastKind {N m : Nat} {μ : zS} (m4 : m ≤ 4) (e17 : μ 82 17 = Int32.ofNat m) : zp (zf_M_lastKind N μ) (fun k => KND m 1 (μ 107) k) := by
  have go : ∀ (n t : Nat), t ≤ m → (∀ u, u < t → μ 107 (15 + 6 * u) = 4 ∨ μ 107 (15 + 6 * u) = 5 ∨ μ 107 (15 + 6 * u) = 0) → zp (zb_M_lastKind_2 N n μ (Int32.ofNat t)) (fun k => KND m 1 (μ 107) k) := by
    intro n
    induction n with
    | zero => intro _ _ _; exact zp_none
    | succ n ih =>
      intro t ht h
      rw [zb_M_lastKind_2, e17]
      unfold zb_M_lastKind_32
      refine zp_ite (fun q => zp_some (Or.inr ⟨rfl, Or.inl ⟨rfl, fun u hu => h u ?_⟩⟩)) fun q => ?_
      · have := (zo_le (k := m) (j := t) (by omega) (by omega)).mp q
        omega
      · have lt : t < m := by
          by_cases c : t < m
          · exact c
          · exact absurd ((zo_le (k := m) (j := t) (by omega) (by omega)).mpr (by omega)) q
        refine zp_bind (zp_mono (m_stateOf (by omega)) fun r2 e2 => ?_)
        subst e2
        rw [zo_1 (m := t) (by omega)]
        have nx : (μ 107 (15 + 6 * t) = 4 ∨ μ 107 (15 + 6 * t) = 5 ∨ μ 107 (15 + 6 * t) = 0) → zp (zb_M_lastKind_2 N n μ (Int32.ofNat (t + 1))) (fun k => KND m 1 (μ 107) k) := fun k => ih (t + 1) (by omega) fun u hu => by
          by_cases c : u = t
          · rw [c]; exact k
          · exact h u (by omega)
        exact zp_ite (fun a => nx (Or.inl a)) fun a => zp_ite (fun b => nx (Or.inr (Or.inl b))) fun b => zp_ite (fun c => nx (Or.inr (Or.inr c))) fun c => zp_some (Or.inr ⟨rfl, Or.inr ⟨rfl, t, lt, fun k => k.elim a fun k => k.elim b c⟩⟩)
  unfold zf_M_lastKind
  exact go N 0 (by omega) fun u hu => absurd hu (Nat.not_lt_zero _)
theorem KND.congr {m : Nat} {v k : Int32} {x x' : Nat → Int32} (h : KND m v x k) (m4 : m ≤ 4) (e : ∀ i, i < 40 → x' i = x i) : KND m v x' k := by
  rcases h with h | ⟨a, ⟨b, h⟩ | ⟨b, t, ht, h⟩⟩
  · exact Or.inl h
  · exact Or.inr ⟨a, Or.inl ⟨b, fun t ht => by rw [e _ (by omega)]; exact h t ht⟩⟩
  · exact Or.inr ⟨a, Or.inr ⟨b, t, ht, by rw [e _ (by omega)]; exact h⟩⟩
theorem m_thrX {k68 : zS → Int32 → Option (Int32 × zS)} {N m S Te nF : Nat} {len : Nat → Nat} {nc : Nat → Nat → Nat} {ρ : zS} {W : Nat → Nat → Int32} {M : Nat → Nat → Nat} {V : Nat → Nat → Int32} {P XQ : Nat → Nat} {R : Int32 × zS → Prop} (Tm : Te ≤ m) (n4 : nF ≤ 4000) (dis : ∀ i j, i < j → j < nF → ¬ SAME5 (W i) (W j)) (suc : ∀ t, t < Te → M S (t + 1) ≤ nF ∧ SUX m len nc ρ W M V P XQ S t) (kont : ∀ (k : Nat) (μ : zS), RGX m len nc ρ W V P XQ S (M S Te) μ → S < M S Te → zp (zb_M_run_91 k68 N k μ (Int32.ofNat S) (V S Te) (Int32.ofNat Te)) R) : ∀ (k T : Nat) (μ : zS) (v3 : Int32), v3 = V S T → T ≤ Te → RGX m len nc ρ W V P XQ S (M S T) μ → S < M S T → M S T ≤ nF → zp (zb_M_run_91 k68 N k μ (Int32.ofNat S) v3 (Int32.ofNat T)) R := by
  intro k
  induction k with
  | zero => intro _ _ _ _ _ _ _ _; exact zp_none
  | succ k ih =>
    intro T μ v3 hv hT rg hS hn
    by_cases c : T = Te
    · subst c hv; exact kont (k + 1) μ rg hS
    have lt : T < Te := by omega
    obtain ⟨sn, su⟩ := suc T lt
    have pc := rg.1
    have m4 := pc.1.1
    have e17 : μ 82 17 = Int32.ofNat m := pc.1.2.2
    rw [zb_M_run_91, e17]
    unfold zb_M_run_169
    refine zp_ite (fun q => ?_) fun _ => zp_bind (zp_mono (m_load (b := 0) (n := 0) (s := S) (by omega)) fun r22 h22 => ?_)
    · have := (zo_le (k := m) (j := T) (by omega) (by omega)).mp q
      omega
    obtain ⟨fr, row⟩ := h22
    have rg2 : RGX m len nc ρ W V P XQ S (M S T) r22 := rg.of (fun q hq => fr q (by omega)) ⟨by rw [fr 82 (by decide)], by rw [fr 82 (by decide)], by rw [fr 82 (by decide)], by rw [fr 82 (by decide)]⟩
    have pc2 := rg2.1
    have st : ST m len nc ρ (W S) (r22 107) := (rg.2.2.1 S hS).congr m4 (fun _ _ => rfl) row
    have tm : T < m := by omega
    rw [zo_1 (m := T) (by omega)]
    rcases su with ⟨⟨σ, lo, e⟩, eM, eV⟩ | ⟨⟨a, na, σ, lo, e⟩, eV, j, mv, hj⟩
    · refine zp_bind (zp_mono (p_can pc2 st (lo _ st) (fun _ _ => rfl) tm _ e) fun b hb => ?_)
      refine zp_ite (fun _ => ih (T + 1) r22 v3 (hv.trans eV.symm) (by omega) (by rw [eM]; exact rg2) (by rw [eM]; exact hS) (by rw [eM]; exact hn)) fun q => absurd hb.1.symm q
    · refine zp_bind (zp_mono (p_can pc2 st (lo _ st) (fun _ _ => rfl) tm _ e) fun b hb => ?_)
      obtain ⟨e1, e2, e3⟩ := hb
      have a1 : a = 1 := e2.resolve_left na
      refine zp_ite (fun q => absurd (e1.trans q) na) fun _ => ?_
      obtain ⟨N0, σ0, r0, lo0, e0, same⟩ := mv
      refine zp_bind (zp_mono (p_move (N := N0) (N' := N) pc2 st (lo0 _ st) tm (e3 a1) r0 e0).2 fun r25 h25 => ?_)
      obtain ⟨f25, st25⟩ := h25
      have st25 : ST m len nc ρ (W j) (r25 107) := st25.congr m4 (fun i hi => (same i hi).symm) (fun _ _ => rfl)
      have rg3 : RGX m len nc ρ W V P XQ S (M S T) r25 := rg2.of (fun q hq => f25 q (by omega)) ⟨by rw [f25 82 (by decide)], by rw [f25 82 (by decide)], by rw [f25 82 (by decide)], by rw [f25 82 (by decide)]⟩
      have pc3 := rg3.1
      refine zp_bind (zp_mono (m_put (N := N) rg3.2.1 (st25.byte pc3)) fun r26 h26 => ?_)
      have l24 : ∀ t, t < m → len t ≤ 24 := fun t ht => (pc3.2.1 t ht).1
      rcases h26 with ⟨i, _, hi, e, s⟩ | ⟨no, h26⟩
      · rw [Nat.zero_add] at hi
        rw [e]
        have sw := (rg3.2.2.1 i hi).bwd m4 st25 s
        have n4' : M S T ≤ 4000 := by omega
        refine zp_ite (fun _ => ?_) fun q => absurd (zo_ne (by omega)) q
        refine zp_ite (fun _ => ?_) fun q => absurd (Int32.le_refl _) q
        rcases hj with ⟨_, eM⟩ | ⟨ej, eM, _⟩
        · exact ih (T + 1) r25 0 eV.symm (by omega) (by rw [eM]; exact rg3) (by rw [eM]; exact hS) (by rw [eM]; exact hn)
        · rw [ej] at sw
          exact absurd sw (dis i (M S T) hi (by omega))
      · rcases hj with ⟨lj, eM⟩ | ⟨ej, eM, eP, eQ⟩
        · exact absurd ((rg3.2.2.1 j lj).fwd m4 l24 st25 SAME5.rfl') (no j (Nat.zero_le _) (by omega))
        · rcases h26 with ⟨nn, e, rn⟩ | ⟨nn, _⟩
          · rw [Nat.zero_add] at e
            obtain ⟨rb, rnew, rold, f26, f82⟩ := rn
            rw [Nat.zero_add] at rnew rold
            have rg4 : RGX m len nc ρ W V P XQ S (M S T + 1) (zx_up (zx_up r26.2 111 (M S T) (Int32.ofNat S)) 112 (M S T) (Int32.ofNat T)) := by
              have g : ∀ q, q ≠ 111 → q ≠ 112 → (zx_up (zx_up r26.2 111 (M S T) (Int32.ofNat S)) 112 (M S T) (Int32.ofNat T)) q = r26.2 q := fun q x y => by rw [zu_other y, zu_other x]
              have g111 : (zx_up (zx_up r26.2 111 (M S T) (Int32.ofNat S)) 112 (M S T) (Int32.ofNat T)) 111 = zu (r25 111) (M S T) (Int32.ofNat S) := by rw [zu_other (by decide), zx_up_same, f26 111 (by decide) (by decide) (by decide) (by decide)]
              have g112 : (zx_up (zx_up r26.2 111 (M S T) (Int32.ofNat S)) 112 (M S T) (Int32.ofNat T)) 112 = zu (r25 112) (M S T) (Int32.ofNat T) := by rw [zx_up_same, zu_other (by decide), f26 112 (by decide) (by decide) (by decide) (by decide)]
              generalize (zx_up (zx_up r26.2 111 (M S T) (Int32.ofNat S)) 112 (M S T) (Int32.ofNat T)) = Y at g g111 g112 ⊢
              have rw40 : ∀ j, row40 Y j = row40 r26.2 j := fun j => by unfold row40; rw [g 108 (by decide) (by decide)]
              have k82 : Y 82 = r26.2 82 := g 82 (by decide) (by decide)
              refine ⟨pc3.q (fun q hq => (g q (by omega) (by omega)).trans (f26 q (by omega) (by omega) (by omega) (by omega))) (by rw [k82]; exact f82 17 (by decide)), rb.of (fun q hq => g q (by omega) (by omega)) ⟨by rw [k82], by rw [k82]⟩, fun i hi => ?_, by rw [k82]; exact (f82 53 (by decide)).trans rg3.2.2.2.1, fun i i0 hi => ?_, fun s hs => ?_⟩
              · rw [rw40]
                by_cases d : i = M S T
                · rw [d, ← ej]
                  refine st25.congr m4 (fun _ _ => rfl) fun i hi => ?_
                  rw [ej]
                  exact rnew i hi
                · exact (rg3.2.2.1 i (by omega)).congr m4 (fun _ _ => rfl) (rold i d)
              · rw [g111, g112]
                by_cases d : i = M S T
                · rw [d, zu_eq, zu_eq, ← ej, eP, eQ]
                  exact ⟨rfl, rfl⟩
                · rw [zu_ne d, zu_ne d]
                  exact rg3.2.2.2.2.1 i i0 (by omega)
              · rw [rw40, g 113 (by decide) (by decide), f26 113 (by decide) (by decide) (by decide) (by decide)]
                exact (rg3.2.2.2.2.2 s hs).congr m4 (rold s (by omega))
            refine zp_ite (fun _ => zp_ite (fun q => ?_) fun _ => ?_) fun q => absurd (by rw [e]; exact zo_ne (by omega)) q
            · rw [rb.2.2.1, rg3.2.1.2.2.1] at q
              have := (zo_le (k := M S T + 1) (j := M S T) (by omega) (by omega)).mp q
              omega
            · rw [e, zo_n (m := M S T) (by omega)]
              refine zp_chk fun _ => zp_chk fun _ => ih (T + 1) _ 0 eV.symm (by omega) ?_ (by rw [eM]; omega) (by omega)
              rw [eM]
              exact rg4
          · omega
theorem m_stateX {k68 : zS → Int32 → Option (Int32 × zS)} {N m S nF : Nat} {len : Nat → Nat} {nc : Nat → Nat → Nat} {ρ : zS} {W : Nat → Nat → Int32} {M : Nat → Nat → Nat} {V : Nat → Nat → Int32} {P XQ : Nat → Nat} {R : Int32 × zS → Prop} (n4 : nF ≤ 4000) (dis : ∀ i j, i < j → j < nF → ¬ SAME5 (W i) (W j)) (suc : ∀ t, t < m → M S (t + 1) ≤ nF ∧ SUX m len nc ρ W M V P XQ S t) (v0 : V S 0 = 1) (v01 : V S m = 0 ∨ V S m = 1) (kk : ∀ μ, RGX m len nc ρ W V P XQ (S + 1) (M S m) μ → zp (k68 μ (Int32.ofNat (S + 1))) R) (k : Nat) (μ : zS) (rg : RGX m len nc ρ W V P XQ S (M S 0) μ) (hS : S < M S 0) (hn : M S 0 ≤ nF) : zp (zb_M_run_91 k68 N k μ (Int32.ofNat S) 1 (Int32.ofNat 0)) R := by
  refine m_thrX (Te := m) (Nat.le_refl _) n4 dis suc (fun k μ rg hS' => ?_) k 0 μ 1 v0.symm (Nat.zero_le _) rg hS hn
  cases k with
  | zero => exact zp_none
  | succ k =>
    have m4 := rg.1.1.1
    rw [zb_M_run_91, rg.1.1.2.2]
    refine zp_ite (fun _ => zp_bind (zp_mono (m_load (b := 0) (n := 0) (s := S) (by omega)) fun r10 h10 => ?_)) fun q => absurd (Int32.le_refl _) q
    obtain ⟨fr, row⟩ := h10
    have rg2 : RGX m len nc ρ W V P XQ S (M S m) r10 := rg.of (fun q hq => fr q (by omega)) ⟨by rw [fr 82 (by decide)], by rw [fr 82 (by decide)], by rw [fr 82 (by decide)], by rw [fr 82 (by decide)]⟩
    have st : ST m len nc ρ (W S) (r10 107) := (rg.2.2.1 S hS').congr m4 (fun _ _ => rfl) row
    have out : ∀ {v3 s0 : Int32}, KND m (V S m) (r10 107) s0 → zp (zb_M_run_197 k68 N r10 (Int32.ofNat S) v3 s0 (Int32.ofNat S)) R := fun {v3 s0} kn => m_outX fun μ' a b c => by
      rw [zo_1 (m := S) (by omega)]
      rw [zo_n (m := S) (by omega)] at c
      have rr : ∀ j, row40 μ' j = row40 r10 j := fun j => by unfold row40; rw [a 108 (by decide) (by decide) (by decide)]
      refine kk μ' ⟨rg2.1.q (fun q hq => a q (by omega) (by omega) (by omega)) (b 17 (by decide)), rg2.2.1.of (fun q hq => a q (by omega) (by omega) (by omega)) ⟨b 51 (by decide), b 52 (by decide)⟩, fun j hj => by rw [rr]; exact rg2.2.2.1 j hj, (b 53 (by decide)).trans rg2.2.2.2.1, fun j j0 hj => by rw [a 111 (by decide) (by decide) (by decide), a 112 (by decide) (by decide) (by decide)]; exact rg2.2.2.2.2.1 j j0 hj, fun s hs => ?_⟩
      rw [rr, c]
      by_cases d : s = S
      · rw [d, zu_eq]
        refine kn.congr m4 fun i hi => ?_
        rw [row i hi]
        unfold row40
        rw [fr 108 (by decide)]
      · rw [zu_ne d]
        exact rg2.2.2.2.2.2 s (by omega)
    refine zp_ite (fun z => out (Or.inl ⟨z, rfl⟩)) fun z => zp_bind (zp_mono (m_lastKind m4 rg2.1.1.2.2) fun r21 kn => out ?_)
    rcases v01 with v | v
    · exact absurd v z
    · rw [v]; exact kn
theorem vv {m : Nat} {len : Nat → Nat} {nc : Nat → Nat → Nat} {ρ : zS} {W : Nat → Nat → Int32} {M : Nat → Nat → Nat} {V : Nat → Nat → Int32} {P XQ : Nat → Nat} (S : Nat) (suc : ∀ t, t < m → SUX m len nc ρ W M V P XQ S t) (v0 : V S 0 = 1) : V S m = 0 ∨ V S m = 1 := by
  have go : ∀ t, t ≤ m → V S t = 0 ∨ V S t = 1 := by
    intro t
    induction t with
    | zero => intro _; exact Or.inr v0
    | succ t ih =>
      intro ht
      rcases suc t (by omega) with ⟨_, _, e⟩ | ⟨_, e, _⟩
      · rw [e]; exact ih (by omega)
      · exact Or.inl e
  exact go m (Nat.le_refl _)
theorem m_doneX {N m nF : Nat} {len : Nat → Nat} {nc : Nat → Nat → Nat} {ρ : zS} {W : Nat → Nat → Int32} {M : Nat → Nat → Nat} {V : Nat → Nat → Int32} {P XQ : Nat → Nat} (n4 : nF ≤ 4000) (dis : ∀ i j, i < j → j < nF → ¬ SAME5 (W i) (W j)) (mF : M nF 0 = nF) (mS : ∀ s, s < nF → M (s + 1) 0 = M s m) (mB : ∀ s, s < nF → s < M s 0) (suc : ∀ s t, s < nF → t < m → M s (t + 1) ≤ nF ∧ SUX m len nc ρ W M V P XQ s t) (m0n : M 0 0 ≤ nF) (v0 : ∀ s, s < nF → V s 0 = 1) : ∀ (k S : Nat) (μ : zS), S ≤ nF → RGX m len nc ρ W V P XQ S (M S 0) μ → zp (zb_M_run_68 N k μ (Int32.ofNat S)) (fun r => r.1 = Int32.ofNat nF ∧ r.2 82 53 = 1 ∧ r.2 82 54 = Int32.ofNat nF ∧ ∀ j, j < nF → ST m len nc ρ (W j) (row40 r.2 j) ∧ KND m (V j m) (row40 r.2 j) (r.2 113 j) ∧ (0 < j → r.2 111 j = Int32.ofNat (P j) ∧ r.2 112 j = Int32.ofNat (XQ j))) := by
  have le : ∀ S, S ≤ nF → M S 0 ≤ nF := fun S hS => by
    cases S with
    | zero => exact m0n
    | succ S =>
      rw [mS S (by omega)]
      cases m with
      | zero =>
        have z : ∀ s, s ≤ nF → M s 0 = M 0 0 := fun s => by
          induction s with
          | zero => intro _; rfl
          | succ s ih => intro hs; rw [mS s (by omega)]; exact ih (by omega)
        rw [z S (by omega)]
        exact m0n
      | succ m => exact (suc S m (by omega) (by omega)).1
  intro k
  induction k with
  | zero => intro _ _ _ _; exact zp_none
  | succ k ih =>
    intro S μ hS rg
    have lS := le S hS
    rw [zb_M_run_68, rg.2.1.2.2.1]
    refine zp_ite (fun q => zp_some ?_) fun q => zp_bind fun r7 e7 => zp_bind fun r8 e8 => ?_
    · have q := (zo_le (k := M S 0) (j := S) (by omega) (by omega)).mp q
      by_cases c : S = nF
      · subst c
        dsimp only
        refine ⟨by rw [mF], by rw [zx_up_same, zu_eq], by rw [zx_up_same, zu_ne (by decide), zx_up_same, zu_eq, mF], fun j hj => ?_⟩
        have r : row40 (zx_up (zx_up μ 82 54 (Int32.ofNat (M S 0))) 82 53 1) j = row40 μ j := by
          unfold row40
          rw [zu_other (by decide), zu_other (by decide)]
        rw [r, zu_other (by decide), zu_other (by decide), zu_other (by decide), zu_other (by decide), zu_other (by decide), zu_other (by decide)]
        exact ⟨rg.2.2.1 j (by rw [mF]; exact hj), rg.2.2.2.2.2 j hj, fun j0 => rg.2.2.2.2.1 j j0 (by rw [mF]; exact hj)⟩
      · have := mB S (by omega)
        omega
    · have lt : S < nF := by
        by_cases c : S < nF
        · exact c
        · have e : S = nF := by omega
          rw [e, mF] at q
          exact absurd (Int32.le_refl _) q
      have b := mB S lt
      obtain ⟨fr, _⟩ := m_load (N := N) (b := 0) (n := 0) (s := S) (μ := μ) (by omega) r7 e7
      have f8 : ∀ q, q ≠ 114 → r8 q = r7 q := ww_f_M_lookForRaces (σ0 := r7) (fun _ _ => rfl) r8 e8
      have ff : ∀ q, q ≠ 107 → q ≠ 114 → r8 q = μ q := fun q x y => (f8 q y).trans (fr q x)
      have rg2 : RGX m len nc ρ W V P XQ S (M S 0) r8 := rg.of (fun q hq => ff q (by omega) (by omega)) ⟨by rw [ff 82 (by decide) (by decide)], by rw [ff 82 (by decide) (by decide)], by rw [ff 82 (by decide) (by decide)], by rw [ff 82 (by decide) (by decide)]⟩
      refine m_stateX n4 dis (fun t ht => suc S t lt ht) (v0 S lt) (vv S (fun t ht => (suc S t lt ht).2) (v0 S lt)) (fun ν rgn => ih (S + 1) ν (by omega) ?_) N r8 rg2 b lS
      rw [mS S lt]
      exact rgn
theorem m_manyX {N m Sx Tx : Nat} {len : Nat → Nat} {nc : Nat → Nat → Nat} {ρ : zS} {W : Nat → Nat → Int32} {M : Nat → Nat → Nat} {V : Nat → Nat → Int32} {P XQ : Nat → Nat} {w' : Nat → Int32} (dis : ∀ i j, i < j → j < 4000 → ¬ SAME5 (W i) (W j)) (Tm : Tx < m) (mT : M Sx Tx = 4000) (mS : ∀ s, s < Sx → M (s + 1) 0 = M s m) (mB : ∀ s, s ≤ Sx → s < M s 0) (suc : ∀ s t, (s < Sx ∧ t < m) ∨ (s = Sx ∧ t < Tx) → M s (t + 1) ≤ 4000 ∧ SUX m len nc ρ W M V P XQ s t) (m0n : M 0 0 ≤ 4000) (v0 : ∀ s, s ≤ Sx → V s 0 = 1) (can : ∃ a, ¬ a = 0 ∧ CANV m len nc ρ (W Sx) Tx a) (mv : MOVV m len nc ρ (W Sx) Tx w') (new : ∀ j, j < 4000 → ¬ SAME5 (W j) w') : ∀ (k S : Nat) (μ : zS), S ≤ Sx → RGX m len nc ρ W V P XQ S (M S 0) μ → zp (zb_M_run_68 N k μ (Int32.ofNat S)) (fun r => r.1 = -103 ∧ r.2 82 53 = 0) := by
  have le : ∀ S, S ≤ Sx → M S 0 ≤ 4000 := fun S hS => by
    cases S with
    | zero => exact m0n
    | succ S =>
      rw [mS S (by omega)]
      cases m with
      | zero => omega
      | succ m => exact (suc S m (Or.inl ⟨by omega, by omega⟩)).1
  intro k
  induction k with
  | zero => intro _ _ _ _; exact zp_none
  | succ k ih =>
    intro S μ hS rg
    have lS := le S hS
    have b := mB S hS
    rw [zb_M_run_68, rg.2.1.2.2.1]
    refine zp_ite (fun q => ?_) fun q => zp_bind fun r7 e7 => zp_bind fun r8 e8 => ?_
    · have q := (zo_le (k := M S 0) (j := S) (by omega) (by omega)).mp q
      omega
    · obtain ⟨fr, _⟩ := m_load (N := N) (b := 0) (n := 0) (s := S) (μ := μ) (by omega) r7 e7
      have f8 : ∀ q, q ≠ 114 → r8 q = r7 q := ww_f_M_lookForRaces (σ0 := r7) (fun _ _ => rfl) r8 e8
      have ff : ∀ q, q ≠ 107 → q ≠ 114 → r8 q = μ q := fun q x y => (f8 q y).trans (fr q x)
      have rg2 : RGX m len nc ρ W V P XQ S (M S 0) r8 := rg.of (fun q hq => ff q (by omega) (by omega)) ⟨by rw [ff 82 (by decide) (by decide)], by rw [ff 82 (by decide) (by decide)], by rw [ff 82 (by decide) (by decide)], by rw [ff 82 (by decide) (by decide)]⟩
      by_cases c : S = Sx
      · subst c
        refine m_thrX (Te := Tx) (by omega) (Nat.le_refl _) dis (fun t ht => suc S t (Or.inr ⟨rfl, ht⟩)) (fun k' ν rgn hSn => ?_) N 0 r8 1 (v0 S hS).symm (Nat.zero_le _) rg2 b lS
        rw [mT] at rgn hSn
        cases k' with
        | zero => exact zp_none
        | succ k' =>
          have pc := rgn.1
          have m4 := pc.1.1
          rw [zb_M_run_91, pc.1.2.2]
          refine zp_ite (fun q => ?_) fun _ => zp_bind (zp_mono (m_load (b := 0) (n := 0) (s := S) (by omega)) fun r22 h22 => ?_)
          · have := (zo_le (k := m) (j := Tx) (by omega) (by omega)).mp q
            omega
          obtain ⟨fr, row⟩ := h22
          have rg3 : RGX m len nc ρ W V P XQ S 4000 r22 := rgn.of (fun q hq => fr q (by omega)) ⟨by rw [fr 82 (by decide)], by rw [fr 82 (by decide)], by rw [fr 82 (by decide)], by rw [fr 82 (by decide)]⟩
          have st : ST m len nc ρ (W S) (r22 107) := (rgn.2.2.1 S hSn).congr m4 (fun _ _ => rfl) row
          obtain ⟨a, na, σ, lo, e⟩ := can
          refine zp_bind (zp_mono (p_can rg3.1 st (lo _ st) (fun _ _ => rfl) Tm _ e) fun bb hb => ?_)
          obtain ⟨e1, e2, e3⟩ := hb
          refine zp_ite (fun q => absurd (e1.trans q) na) fun _ => ?_
          obtain ⟨N0, σ0, r0, lo0, e0, same⟩ := mv
          refine zp_bind (zp_mono (p_move (N := N0) (N' := N) rg3.1 st (lo0 _ st) Tm (e3 (e2.resolve_left na)) r0 e0).2 fun r25 h25 => ?_)
          obtain ⟨f25, st25⟩ := h25
          have st25 : ST m len nc ρ w' (r25 107) := st25.congr m4 (fun i hi => (same i hi).symm) (fun _ _ => rfl)
          have rg4 : RGX m len nc ρ W V P XQ S 4000 r25 := rg3.of (fun q hq => f25 q (by omega)) ⟨by rw [f25 82 (by decide)], by rw [f25 82 (by decide)], by rw [f25 82 (by decide)], by rw [f25 82 (by decide)]⟩
          refine zp_bind (zp_mono (m_put (N := N) rg4.2.1 (st25.byte rg4.1)) fun r26 h26 => ?_)
          rcases h26 with ⟨i, _, hi, _, s⟩ | ⟨_, ⟨nn, _⟩ | ⟨_, e⟩⟩
          · exact absurd ((rg4.2.2.1 i (by omega)).bwd m4 st25 s) (new i (by omega))
          · omega
          · rw [e]
            exact zp_ite (fun q => absurd rfl q) fun _ => zp_some ⟨rfl, rg4.2.2.2.1⟩
      · refine m_stateX (Nat.le_refl _) dis (fun t ht => suc S t (Or.inl ⟨by omega, ht⟩)) (v0 S hS) (vv S (fun t ht => (suc S t (Or.inl ⟨by omega, ht⟩)).2) (v0 S hS)) (fun ν rgn => ih (S + 1) ν (by omega) ?_) N r8 rg2 b lS
        rw [mS S (by omega)]
        exact rgn
