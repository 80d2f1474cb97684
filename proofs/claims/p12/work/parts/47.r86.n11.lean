-- both answer alike
set_option maxRecDepth 2000
theorem OEQ.cg {m c0 : Nat} {x y x' y' : Nat → Int32} (m4 : m ≤ 4) (c6 : c0 ≤ 6) (ex : ∀ i, i < 40 → x' i = x i) (ey : ∀ i, i < 40 → y' i = y i) : OEQ m c0 x' y' ↔ OEQ m c0 x y := by
  have one : ∀ {x y x' y' : Nat → Int32}, (∀ i, i < 40 → x' i = x i) → (∀ i, i < 40 → y' i = y i) → OEQ m c0 x y → OEQ m c0 x' y' := fun {x y x' y'} ex ey h => by
    refine ⟨fun f hf => by rw [ex f (by omega), ey f (by omega)]; exact h.1 f hf, fun t ht => by rw [ex _ (by omega), ey _ (by omega)]; exact h.2.1 t ht, ?_⟩
    constructor
    · intro k t ht
      rw [ey _ (by omega)]
      exact h.2.2.mp (fun u hu => by rw [← ex _ (by omega)]; exact k u hu) t ht
    · intro k t ht
      rw [ex _ (by omega)]
      exact h.2.2.mpr (fun u hu => by rw [← ey _ (by omega)]; exact k u hu) t ht
  exact ⟨one (fun i hi => (ex i hi).symm) (fun i hi => (ey i hi).symm), one ex ey⟩
theorem lst_out {m c0 S : Nat} {L : Nat → Int32} {X X' : Nat → Nat → Int32} (m4 : m ≤ 4) (c6 : c0 ≤ 6) (e : ∀ s, s < S → ∀ i, i < 40 → X' s i = X s i) : lst (pOut m c0 L X') 0 S = lst (pOut m c0 L X) 0 S := by
  refine lst_congr S 0 fun s _ hs => ?_
  have hs : s < S := by omega
  constructor
  · intro h
    exact ⟨h.1, fun s' h1 h2 h3 => h.2 s' h1 h2 ((OEQ.cg m4 c6 (e s' (by omega)) (e s hs)).mpr h3)⟩
  · intro h
    exact ⟨h.1, fun s' h1 h2 h3 => h.2 s' h1 h2 ((OEQ.cg m4 c6 (e s' (by omega)) (e s hs)).mp h3)⟩
def EX2 (m c0 : Nat) (L : Nat → Int32) (S n : Nat) (μ : zS) : Prop := (c0 ≤ 6 ∧ μ 82 15 = Int32.ofNat c0) ∧ (∀ j, j < n → ∀ f, c0 ≤ f → f < 6 → row40 μ j f = 0) ∧ STL (μ 82 60) (μ 115) (lst (pOut m c0 L (row40 μ)) 0 S)
theorem EX2.of {m c0 S n : Nat} {L : Nat → Int32} {μ ν : zS} (h : EX2 m c0 L S n μ) (m4 : m ≤ 4) (hn : S ≤ n) (e : ν 115 = μ 115) (e82 : ν 82 15 = μ 82 15 ∧ ν 82 60 = μ 82 60) (r : ∀ s, s < n → ∀ i, i < 40 → row40 ν s i = row40 μ s i) : EX2 m c0 L S n ν := by
  refine ⟨⟨h.1.1, e82.1.trans h.1.2⟩, fun j hj f a b => (r j hj f (by omega)).trans (h.2.1 j hj f a b), ?_⟩
  rw [e82.2, e, lst_out m4 h.1.1 fun s hs => r s (by omega)]
  exact h.2.2
def NWR (m : Nat) (len : Nat → Nat) (c0 : Nat) (ρ : zS) : Prop := ∀ t z f, t < m → z < len t → ρ 7 (24 * t + z) = 1 → c0 ≤ f → f < 6 → ¬ ρ 8 (24 * t + z) = Int32.ofNat f
def RGZ (m : Nat) (len : Nat → Nat) (nc : Nat → Nat → Nat) (ρ : zS) (W : Nat → Nat → Int32) (V : Nat → Nat → Int32) (P Q : Nat → Nat) (c0 S Sr n : Nat) (μ : zS) : Prop := PC m len nc ρ μ ∧ RTB 0 n μ ∧ (∀ j, j < n → ST m len nc ρ (W j) (row40 μ j)) ∧ μ 82 53 = 0 ∧ (∀ j, 0 < j → j < n → μ 111 j = Int32.ofNat (P j) ∧ μ 112 j = Int32.ofNat (Q j)) ∧ (∀ s, s < S → KND m (V s m) (row40 μ s) (μ 113 s)) ∧ (EXT m len ρ Sr μ ∧ S ≤ n ∧ EX2 m c0 (fun s => V s m) S n μ)
theorem RGZ.of {m c0 S Sr n : Nat} {len : Nat → Nat} {nc : Nat → Nat → Nat} {ρ μ ν : zS} {W : Nat → Nat → Int32} {V : Nat → Nat → Int32} {P Q : Nat → Nat} (h : RGZ m len nc ρ W V P Q c0 S Sr n μ) (e : ∀ q, (4 ≤ q ∧ q ≤ 16) ∨ (88 ≤ q ∧ q ≤ 101) ∨ (108 ≤ q ∧ q ≤ 115) → ν q = μ q) (e82 : ν 82 17 = μ 82 17 ∧ ν 82 51 = μ 82 51 ∧ ν 82 52 = μ 82 52 ∧ ν 82 53 = μ 82 53 ∧ ν 82 15 = μ 82 15 ∧ ν 82 60 = μ 82 60) : RGZ m len nc ρ W V P Q c0 S Sr n ν := by
  have r : ∀ j, row40 ν j = row40 μ j := fun j => by unfold row40; rw [e 108 (by decide)]
  refine ⟨h.1.q (fun q hq => e q (by omega)) e82.1, h.2.1.of (fun q hq => e q (by omega)) ⟨e82.2.1, e82.2.2.1⟩, fun j hj => ?_, e82.2.2.2.1.trans h.2.2.2.1, fun j a b => ?_, fun s hs => ?_, h.2.2.2.2.2.2.1.of h.1.1.1 (fun q hq => e q (by omega)) e82.1 (fun s _ i _ => by rw [r]), h.2.2.2.2.2.2.2.1, h.2.2.2.2.2.2.2.2.of h.1.1.1 h.2.2.2.2.2.2.2.1 (e 115 (by decide)) ⟨e82.2.2.2.2.1, e82.2.2.2.2.2⟩ fun s _ i _ => by rw [r]⟩
  · rw [r]
    exact h.2.2.1 j hj
  · rw [e 111 (by decide), e 112 (by decide)]
    exact h.2.2.2.2.1 j a b
  · rw [r, e 113 (by decide)]
    exact h.2.2.2.2.2.1 s hs
theorem m_thrZ {k68 : zS → Int32 → Option (Int32 × zS)} {N m S Te nF : Nat} {len : Nat → Nat} {nc : Nat → Nat → Nat} {ρ : zS} {W : Nat → Nat → Int32} {M : Nat → Nat → Nat} {V : Nat → Nat → Int32} {P XQ : Nat → Nat} {c0 : Nat} {R : Int32 × zS → Prop} (nwr : NWR m len c0 ρ) (Tm : Te ≤ m) (n4 : nF ≤ 4000) (dis : ∀ i j, i < j → j < nF → ¬ SAME5 (W i) (W j)) (suc : ∀ t, t < Te → M S (t + 1) ≤ nF ∧ SUX m len nc ρ W M V P XQ S t) (kont : ∀ (k : Nat) (μ : zS), RGZ m len nc ρ W V P XQ c0 S (S + 1) (M S Te) μ → S < M S Te → zp (zb_M_run_91 k68 N k μ (Int32.ofNat S) (V S Te) (Int32.ofNat Te)) R) : ∀ (k T : Nat) (μ : zS) (v3 : Int32), v3 = V S T → T ≤ Te → RGZ m len nc ρ W V P XQ c0 S (S + 1) (M S T) μ → S < M S T → M S T ≤ nF → zp (zb_M_run_91 k68 N k μ (Int32.ofNat S) v3 (Int32.ofNat T)) R := by
  intro k
  induction k with
  | zero => intro _ _ _ _ _ _ _ _; exact zp_none
  | succ k ih =>
    intro T μ v3 hv hT rg hS hn
    by_cases c : T = Te
    · subst c hv; exact kont (k + 1) μ rg hS
    have lt : T < Te := by omega
    obtain ⟨sn, su⟩ := suc T lt
    have pc := rg.1
    have m4 := pc.1.1
    have e17 : μ 82 17 = Int32.ofNat m := pc.1.2.2
    rw [zb_M_run_91, e17]
    unfold zb_M_run_169
    refine zp_ite (fun q => ?_) fun _ => zp_bind (zp_mono (m_load (b := 0) (n := 0) (s := S) (by omega)) fun r22 h22 => ?_)
    · have := (zo_le (k := m) (j := T) (by omega) (by omega)).mp q
      omega
    obtain ⟨fr, row⟩ := h22
    have rg2 : RGZ m len nc ρ W V P XQ c0 S (S + 1) (M S T) r22 := rg.of (fun q hq => fr q (by omega)) ⟨by rw [fr 82 (by decide)], by rw [fr 82 (by decide)], by rw [fr 82 (by decide)], by rw [fr 82 (by decide)], by rw [fr 82 (by decide)], by rw [fr 82 (by decide)]⟩
    have pc2 := rg2.1
    have st : ST m len nc ρ (W S) (r22 107) := (rg.2.2.1 S hS).congr m4 (fun _ _ => rfl) row
    have tm : T < m := by omega
    rw [zo_1 (m := T) (by omega)]
    rcases su with ⟨⟨σ, lo, e⟩, eM, eV⟩ | ⟨⟨a, na, σ, lo, e⟩, eV, j, mv, hj⟩
    · refine zp_bind (zp_mono (p_can pc2 st (lo _ st) (fun _ _ => rfl) tm _ e) fun b hb => ?_)
      refine zp_ite (fun _ => ih (T + 1) r22 v3 (hv.trans eV.symm) (by omega) (by rw [eM]; exact rg2) (by rw [eM]; exact hS) (by rw [eM]; exact hn)) fun q => absurd hb.1.symm q
    · refine zp_bind (zp_mono (p_can pc2 st (lo _ st) (fun _ _ => rfl) tm _ e) fun b hb => ?_)
      obtain ⟨e1, e2, e3⟩ := hb
      have a1 : a = 1 := e2.resolve_left na
      refine zp_ite (fun q => absurd (e1.trans q) na) fun _ => ?_
      obtain ⟨N0, σ0, r0, lo0, e0, same⟩ := mv
      have flz : zp (zf_M_doStep N r22 (Int32.ofNat T)) (fun s => ∀ f, c0 ≤ f → f < 6 → s 107 f = r22 107 f) := fun s es f a b => m_doStepF pc2 st (fun _ _ => rfl) tm (e3 a1) b (fun z hz k7 => nwr T z f tm hz k7 a b) s es
      refine zp_bind (zp_mono (zp_and (p_move (N := N0) (N' := N) pc2 st (lo0 _ st) tm (e3 a1) r0 e0).2 flz) fun r25 h25 => ?_)
      obtain ⟨⟨f25, st25⟩, fz25⟩ := h25
      have st25 : ST m len nc ρ (W j) (r25 107) := st25.congr m4 (fun i hi => (same i hi).symm) (fun _ _ => rfl)
      have rg3 : RGZ m len nc ρ W V P XQ c0 S (S + 1) (M S T) r25 := rg2.of (fun q hq => f25 q (by omega)) ⟨by rw [f25 82 (by decide)], by rw [f25 82 (by decide)], by rw [f25 82 (by decide)], by rw [f25 82 (by decide)], by rw [f25 82 (by decide)], by rw [f25 82 (by decide)]⟩
      have pc3 := rg3.1
      refine zp_bind (zp_mono (m_put (N := N) rg3.2.1 (st25.byte pc3)) fun r26 h26 => ?_)
      have l24 : ∀ t, t < m → len t ≤ 24 := fun t ht => (pc3.2.1 t ht).1
      rcases h26 with ⟨i, _, hi, e, s⟩ | ⟨no, h26⟩
      · rw [Nat.zero_add] at hi
        rw [e]
        have sw := (rg3.2.2.1 i hi).bwd m4 st25 s
        have n4' : M S T ≤ 4000 := by omega
        refine zp_ite (fun _ => ?_) fun q => absurd (zo_ne (by omega)) q
        refine zp_ite (fun _ => ?_) fun q => absurd (Int32.le_refl _) q
        rcases hj with ⟨_, eM⟩ | ⟨ej, eM, _⟩
        · exact ih (T + 1) r25 0 eV.symm (by omega) (by rw [eM]; exact rg3) (by rw [eM]; exact hS) (by rw [eM]; exact hn)
        · rw [ej] at sw
          exact absurd sw (dis i (M S T) hi (by omega))
      · rcases hj with ⟨lj, eM⟩ | ⟨ej, eM, eP, eQ⟩
        · exact absurd ((rg3.2.2.1 j lj).fwd m4 l24 st25 SAME5.rfl') (no j (Nat.zero_le _) (by omega))
        · rcases h26 with ⟨nn, e, rn⟩ | ⟨nn, _⟩
          · rw [Nat.zero_add] at e
            obtain ⟨rb, rnew, rold, f26, f82⟩ := rn
            rw [Nat.zero_add] at rnew rold
            have rg4 : RGZ m len nc ρ W V P XQ c0 S (S + 1) (M S T + 1) (zx_up (zx_up r26.2 111 (M S T) (Int32.ofNat S)) 112 (M S T) (Int32.ofNat T)) := by
              have g : ∀ q, q ≠ 111 → q ≠ 112 → (zx_up (zx_up r26.2 111 (M S T) (Int32.ofNat S)) 112 (M S T) (Int32.ofNat T)) q = r26.2 q := fun q x y => by rw [zu_other y, zu_other x]
              have g111 : (zx_up (zx_up r26.2 111 (M S T) (Int32.ofNat S)) 112 (M S T) (Int32.ofNat T)) 111 = zu (r25 111) (M S T) (Int32.ofNat S) := by rw [zu_other (by decide), zx_up_same, f26 111 (by decide) (by decide) (by decide) (by decide)]
              have g112 : (zx_up (zx_up r26.2 111 (M S T) (Int32.ofNat S)) 112 (M S T) (Int32.ofNat T)) 112 = zu (r25 112) (M S T) (Int32.ofNat T) := by rw [zx_up_same, zu_other (by decide), f26 112 (by decide) (by decide) (by decide) (by decide)]
              generalize (zx_up (zx_up r26.2 111 (M S T) (Int32.ofNat S)) 112 (M S T) (Int32.ofNat T)) = Y at g g111 g112 ⊢
              have rw40 : ∀ j, row40 Y j = row40 r26.2 j := fun j => by unfold row40; rw [g 108 (by decide) (by decide)]
              have k82 : Y 82 = r26.2 82 := g 82 (by decide) (by decide)
              refine ⟨pc3.q (fun q hq => (g q (by omega) (by omega)).trans (f26 q (by omega) (by omega) (by omega) (by omega))) (by rw [k82]; exact f82 17 (by decide)), rb.of (fun q hq => g q (by omega) (by omega)) ⟨by rw [k82], by rw [k82]⟩, fun i hi => ?_, by rw [k82]; exact (f82 53 (by decide)).trans rg3.2.2.2.1, fun i i0 hi => ?_, fun s hs => ?_, ?_, ?_, ?_⟩
              · rw [rw40]
                by_cases d : i = M S T
                · rw [d, ← ej]
                  refine st25.congr m4 (fun _ _ => rfl) fun i hi => ?_
                  rw [ej]
                  exact rnew i hi
                · exact (rg3.2.2.1 i (by omega)).congr m4 (fun _ _ => rfl) (rold i d)
              · rw [g111, g112]
                by_cases d : i = M S T
                · rw [d, zu_eq, zu_eq, ← ej, eP, eQ]
                  exact ⟨rfl, rfl⟩
                · rw [zu_ne d, zu_ne d]
                  exact rg3.2.2.2.2.1 i i0 (by omega)
              · rw [rw40, g 113 (by decide) (by decide), f26 113 (by decide) (by decide) (by decide) (by decide)]
                exact (rg3.2.2.2.2.2.1 s hs).congr m4 (rold s (by omega))
              · exact rg3.2.2.2.2.2.2.1.of m4 (fun q hq => (g q (by omega) (by omega)).trans (f26 q (by omega) (by omega) (by omega) (by omega))) (by rw [k82]; exact f82 17 (by decide)) fun s hs i hi => by rw [rw40]; exact rold s (by omega) i hi
              · have := rg3.2.2.2.2.2.2.2.1
                omega
              · have x2 := rg3.2.2.2.2.2.2.2.2
                have sn := rg3.2.2.2.2.2.2.2.1
                refine ⟨⟨x2.1.1, by rw [k82, f82 15 (by decide)]; exact x2.1.2⟩, fun i hi f a b => ?_, ?_⟩
                · rw [rw40]
                  by_cases d : i = M S T
                  · rw [d, rnew f (by omega), fz25 f a b, row f (by omega)]
                    exact rg.2.2.2.2.2.2.2.2.2.1 S hS f a b
                  · rw [rold i d f (by omega)]
                    exact x2.2.1 i (by omega) f a b
                · rw [k82, f82 60 (by decide), g 115 (by decide) (by decide), f26 115 (by decide) (by decide) (by decide) (by decide), lst_out (X := row40 r25) m4 x2.1.1 fun s hs i hi => by rw [rw40]; exact rold s (by omega) i hi]
                  exact x2.2.2
            refine zp_ite (fun _ => zp_ite (fun q => ?_) fun _ => ?_) fun q => absurd (by rw [e]; exact zo_ne (by omega)) q
            · rw [rb.2.2.1, rg3.2.1.2.2.1] at q
              have := (zo_le (k := M S T + 1) (j := M S T) (by omega) (by omega)).mp q
              omega
            · rw [e, zo_n (m := M S T) (by omega)]
              refine zp_chk fun _ => zp_chk fun _ => ih (T + 1) _ 0 eV.symm (by omega) ?_ (by rw [eM]; omega) (by omega)
              rw [eM]
              exact rg4
          · omega
theorem m_stateZ {k68 : zS → Int32 → Option (Int32 × zS)} {N m S nF : Nat} {len : Nat → Nat} {nc : Nat → Nat → Nat} {ρ : zS} {W : Nat → Nat → Int32} {M : Nat → Nat → Nat} {V : Nat → Nat → Int32} {P XQ : Nat → Nat} {c0 : Nat} {R : Int32 × zS → Prop} (n4 : nF ≤ 4000) (dis : ∀ i j, i < j → j < nF → ¬ SAME5 (W i) (W j)) (suc : ∀ t, t < m → M S (t + 1) ≤ nF ∧ SUX m len nc ρ W M V P XQ S t) (nwr : NWR m len c0 ρ) (v0 : V S 0 = 1) (v01 : V S m = 0 ∨ V S m = 1) (kk : ∀ μ, RGZ m len nc ρ W V P XQ c0 (S + 1) (S + 1) (M S m) μ → zp (k68 μ (Int32.ofNat (S + 1))) R) (k : Nat) (μ : zS) (rg : RGZ m len nc ρ W V P XQ c0 S (S + 1) (M S 0) μ) (hS : S < M S 0) (hn : M S 0 ≤ nF) : zp (zb_M_run_91 k68 N k μ (Int32.ofNat S) 1 (Int32.ofNat 0)) R := by
  refine m_thrZ (Te := m) nwr (Nat.le_refl _) n4 dis suc (fun k μ rg hS' => ?_) k 0 μ 1 v0.symm (Nat.zero_le _) rg hS hn
  cases k with
  | zero => exact zp_none
  | succ k =>
    have m4 := rg.1.1.1
    rw [zb_M_run_91, rg.1.1.2.2]
    refine zp_ite (fun _ => zp_bind (zp_mono (m_load (b := 0) (n := 0) (s := S) (by omega)) fun r10 h10 => ?_)) fun q => absurd (Int32.le_refl _) q
    obtain ⟨fr, row⟩ := h10
    have rg2 : RGZ m len nc ρ W V P XQ c0 S (S + 1) (M S m) r10 := rg.of (fun q hq => fr q (by omega)) ⟨by rw [fr 82 (by decide)], by rw [fr 82 (by decide)], by rw [fr 82 (by decide)], by rw [fr 82 (by decide)], by rw [fr 82 (by decide)], by rw [fr 82 (by decide)]⟩
    have st : ST m len nc ρ (W S) (r10 107) := (rg.2.2.1 S hS').congr m4 (fun _ _ => rfl) row
    have x2 := rg2.2.2.2.2.2.2.2.2
    have out : ∀ {v3 s0 : Int32}, v3 = V S m → KND m (V S m) (r10 107) s0 → zp (zb_M_run_197 k68 N r10 (Int32.ofNat S) v3 s0 (Int32.ofNat S)) R := fun {v3 s0} ev kn => m_outY (L := fun s => V s m) m4 x2.1.1 x2.1.2 rg2.1.1.2.2 (by omega) ev v01 x2.2.2 fun μ' a b c d => by
      have rr : ∀ j, row40 μ' j = row40 r10 j := fun j => by unfold row40; rw [a 108 (by decide) (by decide) (by decide)]
      refine kk μ' ⟨rg2.1.q (fun q hq => a q (by omega) (by omega) (by omega)) (b 17 (by decide)), rg2.2.1.of (fun q hq => a q (by omega) (by omega) (by omega)) ⟨b 51 (by decide), b 52 (by decide)⟩, fun j hj => by rw [rr]; exact rg2.2.2.1 j hj, (b 53 (by decide)).trans rg2.2.2.2.1, fun j j0 hj => by rw [a 111 (by decide) (by decide) (by decide), a 112 (by decide) (by decide) (by decide)]; exact rg2.2.2.2.2.1 j j0 hj, fun s hs => ?_, rg2.2.2.2.2.2.2.1.of m4 (fun q hq => a q (by omega) (by omega) (by omega)) (b 17 (by decide)) (fun s _ i _ => by rw [rr]), by omega, ⟨x2.1.1, (b 15 (by decide)).trans x2.1.2⟩, fun j hj f p q => by rw [rr]; exact x2.2.1 j hj f p q, ?_⟩
      · rw [rr, c]
        by_cases d : s = S
        · rw [d, zu_eq]
          refine kn.congr m4 fun i hi => ?_
          rw [row i hi]
          unfold row40
          rw [fr 108 (by decide)]
        · rw [zu_ne d]
          exact rg2.2.2.2.2.2.1 s (by omega)
      · have e : row40 μ' = row40 r10 := by
          funext j
          exact rr j
        rw [e]
        exact d
    refine zp_ite (fun z => out rfl (Or.inl ⟨z, rfl⟩)) fun z => zp_bind (zp_mono (m_lastKind m4 rg2.1.1.2.2) fun r21 kn => out rfl ?_)
    rcases v01 with v | v
    · exact absurd v z
    · rw [v]; exact kn
theorem m_doneZ {N m nF : Nat} {len : Nat → Nat} {nc : Nat → Nat → Nat} {ρ : zS} {W : Nat → Nat → Int32} {M : Nat → Nat → Nat} {V : Nat → Nat → Int32} {P XQ : Nat → Nat} {c0 : Nat} (n4 : nF ≤ 4000) (dis : ∀ i j, i < j → j < nF → ¬ SAME5 (W i) (W j)) (mF : M nF 0 = nF) (mS : ∀ s, s < nF → M (s + 1) 0 = M s m) (mB : ∀ s, s < nF → s < M s 0) (suc : ∀ s t, s < nF → t < m → M s (t + 1) ≤ nF ∧ SUX m len nc ρ W M V P XQ s t) (m0n : M 0 0 ≤ nF) (v0 : ∀ s, s < nF → V s 0 = 1) (nwr : NWR m len c0 ρ) : ∀ (k S : Nat) (μ : zS), S ≤ nF → RGZ m len nc ρ W V P XQ c0 S S (M S 0) μ → zp (zb_M_run_68 N k μ (Int32.ofNat S)) (fun r => r.1 = Int32.ofNat nF ∧ r.2 82 53 = 1 ∧ r.2 82 54 = Int32.ofNat nF ∧ (∀ j, j < nF → ST m len nc ρ (W j) (row40 r.2 j) ∧ KND m (V j m) (row40 r.2 j) (r.2 113 j) ∧ (0 < j → r.2 111 j = Int32.ofNat (P j) ∧ r.2 112 j = Int32.ofNat (XQ j))) ∧ LEA (r.2 114) 0 (fun s => Int32.ofNat (s + 1)) (fun s => RPA m ρ (row40 r.2 s)) nF ∧ (∀ j, j < nF → ∀ f, c0 ≤ f → f < 6 → row40 r.2 j f = 0) ∧ STL (r.2 82 60) (r.2 115) (lst (pOut m c0 (fun s => V s m) (row40 r.2)) 0 nF)) := by
  have le : ∀ S, S ≤ nF → M S 0 ≤ nF := fun S hS => by
    cases S with
    | zero => exact m0n
    | succ S =>
      rw [mS S (by omega)]
      cases m with
      | zero =>
        have z : ∀ s, s ≤ nF → M s 0 = M 0 0 := fun s => by
          induction s with
          | zero => intro _; rfl
          | succ s ih => intro hs; rw [mS s (by omega)]; exact ih (by omega)
        rw [z S (by omega)]
        exact m0n
      | succ m => exact (suc S m (by omega) (by omega)).1
  intro k
  induction k with
  | zero => intro _ _ _ _; exact zp_none
  | succ k ih =>
    intro S μ hS rg
    have lS := le S hS
    rw [zb_M_run_68, rg.2.1.2.2.1]
    refine zp_ite (fun q => zp_some ?_) fun q => zp_bind fun r7 e7 => zp_bind fun r8 e8 => ?_
    · have q := (zo_le (k := M S 0) (j := S) (by omega) (by omega)).mp q
      by_cases c : S = nF
      · subst c
        dsimp only
        have r : ∀ j, row40 (zx_up (zx_up μ 82 54 (Int32.ofNat (M S 0))) 82 53 1) j = row40 μ j := fun j => by
          unfold row40
          rw [zu_other (by decide), zu_other (by decide)]
        refine ⟨by rw [mF], by rw [zx_up_same, zu_eq], by rw [zx_up_same, zu_ne (by decide), zx_up_same, zu_eq, mF], fun j hj => ?_, ?_, fun j hj f p q => ?_, ?_⟩
        · rw [r, zu_other (by decide), zu_other (by decide), zu_other (by decide), zu_other (by decide), zu_other (by decide), zu_other (by decide)]
          exact ⟨rg.2.2.1 j (by rw [mF]; exact hj), rg.2.2.2.2.2.1 j hj, fun j0 => rg.2.2.2.2.1 j j0 (by rw [mF]; exact hj)⟩
        · rw [zu_other (by decide), zu_other (by decide)]
          exact rg.2.2.2.2.2.2.1.2.2.congr fun s _ p => by rw [r]
        · rw [r]
          exact rg.2.2.2.2.2.2.2.2.2.1 j (by rw [mF]; exact hj) f p q
        · have e : row40 (zx_up (zx_up μ 82 54 (Int32.ofNat (M S 0))) 82 53 1) = row40 μ := by
            funext j
            exact r j
          rw [e, zx_up_same, zu_ne (by decide), zx_up_same, zu_ne (by decide), zu_other (by decide), zu_other (by decide)]
          exact rg.2.2.2.2.2.2.2.2.2.2
      · have := mB S (by omega)
        omega
    · have lt : S < nF := by
        by_cases c : S < nF
        · exact c
        · have e : S = nF := by omega
          rw [e, mF] at q
          exact absurd (Int32.le_refl _) q
      have b := mB S lt
      have hSn : S < M S 0 := b
      have ldr := m_load (N := N) (b := 0) (n := 0) (s := S) (μ := μ) (by omega) r7 e7
      obtain ⟨fr, row⟩ := ldr
      have m4 := rg.1.1.1
      have ex := rg.2.2.2.2.2.2.1
      have pc7 : PC m len nc ρ r7 := rg.1.q (fun q hq => fr q (by omega)) (by rw [fr 82 (by decide)])
      have pj7 : PJ r7 m len := ex.1.1.of (fun q hq => fr q (by omega)) (by rw [fr 82 (by decide)])
      have fd7 : FLD r7 := ex.1.2.of fun q hq => fr q (by omega)
      obtain ⟨f8, u8⟩ := m_look pc7 (rg.2.2.1 S hSn) row pj7 fd7 (by omega) r8 e8
      have ff : ∀ q, q ≠ 107 → q ≠ 114 → r8 q = μ q := fun q x y => (f8 q y).trans (fr q x)
      have r40 : ∀ j, row40 r8 j = row40 μ j := fun j => by unfold row40; rw [ff 108 (by decide) (by decide)]
      have le8 : LEA (r8 114) 0 (fun s => Int32.ofNat (s + 1)) (fun s => RPA m ρ (row40 r8 s)) (S + 1) := by
        rw [fr 114 (by decide)] at u8
        refine (ex.2.2.step (fun s hs => ?_) (u8.same fun p => (RPA.of fun q hq => ?_).symm)).congr fun s hs p => by rw [r40]
        · intro z
          have := zo_inj (k := s + 1) (j := 0) (by omega) (by omega) z
          omega
        · rw [fr q (by omega)]
          exact ex.2.1 q (by omega) (by omega)
      have rg2 : RGZ m len nc ρ W V P XQ c0 S (S + 1) (M S 0) r8 := ⟨rg.1.q (fun q hq => ff q (by omega) (by omega)) (by rw [ff 82 (by decide) (by decide)]), rg.2.1.of (fun q hq => ff q (by omega) (by omega)) ⟨by rw [ff 82 (by decide) (by decide)], by rw [ff 82 (by decide) (by decide)]⟩, fun j hj => by rw [r40]; exact rg.2.2.1 j hj, by rw [ff 82 (by decide) (by decide)]; exact rg.2.2.2.1, fun j j0 hj => by rw [ff 111 (by decide) (by decide), ff 112 (by decide) (by decide)]; exact rg.2.2.2.2.1 j j0 hj, fun s hs => by rw [r40, ff 113 (by decide) (by decide)]; exact rg.2.2.2.2.2.1 s hs, ⟨⟨ex.1.1.of (fun q hq => ff q (by omega) (by omega)) (by rw [ff 82 (by decide) (by decide)]), ex.1.2.of fun q hq => ff q (by omega) (by omega)⟩, fun q x y => (ff q (by omega) (by omega)).trans (ex.2.1 q x y), le8⟩, rg.2.2.2.2.2.2.2.1, rg.2.2.2.2.2.2.2.2.of m4 rg.2.2.2.2.2.2.2.1 (ff 115 (by decide) (by decide)) ⟨by rw [ff 82 (by decide) (by decide)], by rw [ff 82 (by decide) (by decide)]⟩ fun s _ i _ => by rw [r40]⟩
      refine m_stateZ n4 dis (fun t ht => suc S t lt ht) nwr (v0 S lt) (vv S (fun t ht => (suc S t lt ht).2) (v0 S lt)) (fun ν rgn => ih (S + 1) ν (by omega) ?_) N r8 rg2 b lS
      rw [mS S lt]
      exact rgn
theorem m_manyZ {N m Sx Tx : Nat} {len : Nat → Nat} {nc : Nat → Nat → Nat} {ρ : zS} {W : Nat → Nat → Int32} {M : Nat → Nat → Nat} {V : Nat → Nat → Int32} {P XQ : Nat → Nat} {c0 : Nat} {w' : Nat → Int32} (dis : ∀ i j, i < j → j < 4000 → ¬ SAME5 (W i) (W j)) (Tm : Tx < m) (mT : M Sx Tx = 4000) (mS : ∀ s, s < Sx → M (s + 1) 0 = M s m) (mB : ∀ s, s ≤ Sx → s < M s 0) (suc : ∀ s t, (s < Sx ∧ t < m) ∨ (s = Sx ∧ t < Tx) → M s (t + 1) ≤ 4000 ∧ SUX m len nc ρ W M V P XQ s t) (m0n : M 0 0 ≤ 4000) (v0 : ∀ s, s ≤ Sx → V s 0 = 1) (nwr : NWR m len c0 ρ) (can : ∃ a, ¬ a = 0 ∧ CANV m len nc ρ (W Sx) Tx a) (mv : MOVV m len nc ρ (W Sx) Tx w') (new : ∀ j, j < 4000 → ¬ SAME5 (W j) w') : ∀ (k S : Nat) (μ : zS), S ≤ Sx → RGZ m len nc ρ W V P XQ c0 S S (M S 0) μ → zp (zb_M_run_68 N k μ (Int32.ofNat S)) (fun r => r.1 = -103 ∧ r.2 82 53 = 0) := by
  have le : ∀ S, S ≤ Sx → M S 0 ≤ 4000 := fun S hS => by
    cases S with
    | zero => exact m0n
    | succ S =>
      rw [mS S (by omega)]
      cases m with
      | zero => omega
      | succ m => exact (suc S m (Or.inl ⟨by omega, by omega⟩)).1
  intro k
  induction k with
  | zero => intro _ _ _ _; exact zp_none
  | succ k ih =>
    intro S μ hS rg
    have lS := le S hS
    have b := mB S hS
    rw [zb_M_run_68, rg.2.1.2.2.1]
    refine zp_ite (fun q => ?_) fun q => zp_bind fun r7 e7 => zp_bind fun r8 e8 => ?_
    · have q := (zo_le (k := M S 0) (j := S) (by omega) (by omega)).mp q
      omega
    · have hSn : S < M S 0 := b
      have ldr := m_load (N := N) (b := 0) (n := 0) (s := S) (μ := μ) (by omega) r7 e7
      obtain ⟨fr, row⟩ := ldr
      have m4 := rg.1.1.1
      have ex := rg.2.2.2.2.2.2.1
      have pc7 : PC m len nc ρ r7 := rg.1.q (fun q hq => fr q (by omega)) (by rw [fr 82 (by decide)])
      have pj7 : PJ r7 m len := ex.1.1.of (fun q hq => fr q (by omega)) (by rw [fr 82 (by decide)])
      have fd7 : FLD r7 := ex.1.2.of fun q hq => fr q (by omega)
      obtain ⟨f8, u8⟩ := m_look pc7 (rg.2.2.1 S hSn) row pj7 fd7 (by omega) r8 e8
      have ff : ∀ q, q ≠ 107 → q ≠ 114 → r8 q = μ q := fun q x y => (f8 q y).trans (fr q x)
      have r40 : ∀ j, row40 r8 j = row40 μ j := fun j => by unfold row40; rw [ff 108 (by decide) (by decide)]
      have le8 : LEA (r8 114) 0 (fun s => Int32.ofNat (s + 1)) (fun s => RPA m ρ (row40 r8 s)) (S + 1) := by
        rw [fr 114 (by decide)] at u8
        refine (ex.2.2.step (fun s hs => ?_) (u8.same fun p => (RPA.of fun q hq => ?_).symm)).congr fun s hs p => by rw [r40]
        · intro z
          have := zo_inj (k := s + 1) (j := 0) (by omega) (by omega) z
          omega
        · rw [fr q (by omega)]
          exact ex.2.1 q (by omega) (by omega)
      have rg2 : RGZ m len nc ρ W V P XQ c0 S (S + 1) (M S 0) r8 := ⟨rg.1.q (fun q hq => ff q (by omega) (by omega)) (by rw [ff 82 (by decide) (by decide)]), rg.2.1.of (fun q hq => ff q (by omega) (by omega)) ⟨by rw [ff 82 (by decide) (by decide)], by rw [ff 82 (by decide) (by decide)]⟩, fun j hj => by rw [r40]; exact rg.2.2.1 j hj, by rw [ff 82 (by decide) (by decide)]; exact rg.2.2.2.1, fun j j0 hj => by rw [ff 111 (by decide) (by decide), ff 112 (by decide) (by decide)]; exact rg.2.2.2.2.1 j j0 hj, fun s hs => by rw [r40, ff 113 (by decide) (by decide)]; exact rg.2.2.2.2.2.1 s hs, ⟨⟨ex.1.1.of (fun q hq => ff q (by omega) (by omega)) (by rw [ff 82 (by decide) (by decide)]), ex.1.2.of fun q hq => ff q (by omega) (by omega)⟩, fun q x y => (ff q (by omega) (by omega)).trans (ex.2.1 q x y), le8⟩, rg.2.2.2.2.2.2.2.1, rg.2.2.2.2.2.2.2.2.of m4 rg.2.2.2.2.2.2.2.1 (ff 115 (by decide) (by decide)) ⟨by rw [ff 82 (by decide) (by decide)], by rw [ff 82 (by decide) (by decide)]⟩ fun s _ i _ => by rw [r40]⟩
      by_cases c : S = Sx
      · subst c
        refine m_thrZ (Te := Tx) nwr (by omega) (Nat.le_refl _) dis (fun t ht => suc S t (Or.inr ⟨rfl, ht⟩)) (fun k' ν rgn hSn => ?_) N 0 r8 1 (v0 S hS).symm (Nat.zero_le _) rg2 b lS
        rw [mT] at rgn hSn
        cases k' with
        | zero => exact zp_none
        | succ k' =>
          have pc := rgn.1
          have m4 := pc.1.1
          rw [zb_M_run_91, pc.1.2.2]
          refine zp_ite (fun q => ?_) fun _ => zp_bind (zp_mono (m_load (b := 0) (n := 0) (s := S) (by omega)) fun r22 h22 => ?_)
          · have := (zo_le (k := m) (j := Tx) (by omega) (by omega)).mp q
            omega
          obtain ⟨fr, row⟩ := h22
          have rg3 : RGZ m len nc ρ W V P XQ c0 S (S + 1) 4000 r22 := rgn.of (fun q hq => fr q (by omega)) ⟨by rw [fr 82 (by decide)], by rw [fr 82 (by decide)], by rw [fr 82 (by decide)], by rw [fr 82 (by decide)], by rw [fr 82 (by decide)], by rw [fr 82 (by decide)]⟩
          have st : ST m len nc ρ (W S) (r22 107) := (rgn.2.2.1 S hSn).congr m4 (fun _ _ => rfl) row
          obtain ⟨a, na, σ, lo, e⟩ := can
          refine zp_bind (zp_mono (p_can rg3.1 st (lo _ st) (fun _ _ => rfl) Tm _ e) fun bb hb => ?_)
          obtain ⟨e1, e2, e3⟩ := hb
          refine zp_ite (fun q => absurd (e1.trans q) na) fun _ => ?_
          obtain ⟨N0, σ0, r0, lo0, e0, same⟩ := mv
          refine zp_bind (zp_mono (p_move (N := N0) (N' := N) rg3.1 st (lo0 _ st) Tm (e3 (e2.resolve_left na)) r0 e0).2 fun r25 h25 => ?_)
          obtain ⟨f25, st25⟩ := h25
          have st25 : ST m len nc ρ w' (r25 107) := st25.congr m4 (fun i hi => (same i hi).symm) (fun _ _ => rfl)
          have rg4 : RGZ m len nc ρ W V P XQ c0 S (S + 1) 4000 r25 := rg3.of (fun q hq => f25 q (by omega)) ⟨by rw [f25 82 (by decide)], by rw [f25 82 (by decide)], by rw [f25 82 (by decide)], by rw [f25 82 (by decide)], by rw [f25 82 (by decide)], by rw [f25 82 (by decide)]⟩
          refine zp_bind (zp_mono (m_put (N := N) rg4.2.1 (st25.byte rg4.1)) fun r26 h26 => ?_)
          rcases h26 with ⟨i, _, hi, _, s⟩ | ⟨_, ⟨nn, _⟩ | ⟨_, e⟩⟩
          · exact absurd ((rg4.2.2.1 i (by omega)).bwd m4 st25 s) (new i (by omega))
          · omega
          · rw [e]
            exact zp_ite (fun q => absurd rfl q) fun _ => zp_some ⟨rfl, rg4.2.2.2.1⟩
      · refine m_stateZ (Nat.le_refl _) dis (fun t ht => suc S t (Or.inl ⟨by omega, ht⟩)) nwr (v0 S hS) (vv S (fun t ht => (suc S t (Or.inl ⟨by omega, ht⟩)).2) (v0 S hS)) (fun ν rgn => ih (S + 1) ν (by omega) ?_) N r8 rg2 b lS
        rw [mS S (by omega)]
        exact rgn
