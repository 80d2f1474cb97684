-- both answer alike
set_option maxRecDepth 2000
theorem c_hasThreadN {σ : zS} {x : Int32} {m : Nat} (h : σ 4 2 = Int32.ofNat m) (m4 : m ≤ 4) : zp (zf_Program_hasThread σ x) (fun r => (r = 0 ∧ ¬ (0 ≤ x ∧ x < Int32.ofNat m)) ∨ (r = 1 ∧ ∃ k, k < m ∧ x = Int32.ofNat k)) := by
  unfold zf_Program_hasThread
  rw [h]
  refine zp_ite (fun q => zp_some (Or.inl ⟨rfl, fun h => absurd q (Int32.not_lt.mpr h.1)⟩)) fun q => zp_ite (fun q' => zp_some (Or.inl ⟨rfl, fun h => absurd h.2 (Int32.not_lt.mpr q')⟩)) fun q' => zp_ite (fun q'' => zp_some (Or.inl ⟨rfl, fun h => ?_⟩)) fun _ => zp_some (Or.inr ⟨rfl, z_ex (m := m) (by omega) (Int32.not_lt.mp q) (Int32.not_le.mp q')⟩)
  obtain ⟨k, hk, e⟩ := z_ex (m := m) (by omega) h.1 h.2
  subst e
  have := (zo_le (k := 4) (j := k) (by omega) (by omega)).mp q''
  omega
theorem c_localOf {σ : zS} {t j : Nat} {y : Int32} (t4 : t < 4) (hj : j < 3) (hy : y = Int32.ofNat j) : zp (zf_Machine_localOf σ (Int32.ofNat t) y) (fun r => r = (zJ_ushr (σ 39 (t + 1)) (Int32.ofNat (3 * j))) &&& 7) := by
  subst hy
  have e3 : (3 : Int32) * Int32.ofNat j = Int32.ofNat (3 * j) := by
    show Int32.ofNat 3 * Int32.ofNat j = _
    rw [← Int32.ofNat_mul]
  unfold zf_Machine_localOf
  rw [e3, zo_1 (m := t) (by omega), zo_n (m := t + 1) (by omega)]
  refine zp_ite (fun q => ?_) fun _ => zp_ite (fun q => ?_) fun _ => zp_chk fun _ => zp_some rfl
  · have := (zo_lt (k := t) (j := 0) (by omega) (by omega)).mp q
    omega
  · have := (zo_le (k := 4) (j := t) (by omega) (by omega)).mp q
    omega
theorem m_threadA {N n m k t w : Nat} {r : zS} {Q : Int32 × zS → Prop} (n4 : n ≤ 4000) (m4 : m ≤ 4) (k53 : ¬ r 82 53 = 0) (h54 : r 82 54 = Int32.ofNat n) (h17 : r 82 17 = Int32.ofNat m) (hk : k < n) (ht : t < m) (hw : w < 6) (H : ∀ μ : zS, (∀ q, q ≠ 107 → μ q = (zx_up r 82 0 0) q) → (∀ i, i < 40 → μ 107 i = row40 r k i) → (w = 0 → Q (μ 107 (15 + 6 * t), μ)) ∧ (w = 1 → Q (μ 107 (14 + 6 * t), μ)) ∧ (w = 2 → zp (zf_M_canStep μ (Int32.ofNat t)) (fun b => Q (if b = 0 then 0 else 1, μ))) ∧ (3 ≤ w → Q (μ 107 (13 + 6 * t + w), μ))) : zp (zf_M_thread N r (Int32.ofNat k) (Int32.ofNat t) (Int32.ofNat w)) Q := by
  have t4 : t < 4 := by omega
  unfold zf_M_thread zf_M_isState
  refine zp_ite (fun _ => zp_bind (zp_bind (zp_mono (m_inN n4 (by rw [zx_up_same, zu_ne (by decide), h54])) fun r1 h1 => zp_chk fun _ => zp_some ?_))) fun q => absurd k53 q
  rcases h1 with ⟨_, no⟩ | ⟨e1, _⟩
  · exact absurd (z_rg hk n4) no
  refine zp_ite (fun q => absurd (e1.symm.trans q) (by decide)) fun _ => zp_bind (zp_mono (m_inN (n := m) (by omega) (by rw [h17])) fun r4 h4 => ?_)
  rcases h4 with ⟨_, no⟩ | ⟨e4, _⟩
  · exact absurd (z_rg ht (by omega)) no
  refine zp_ite (fun q => absurd (e4.symm.trans q) (by decide)) fun _ => zp_bind (zp_mono (m_inN (n := 6) (by omega) (by decide)) fun r6 h6 => ?_)
  rcases h6 with ⟨_, no⟩ | ⟨e6, _⟩
  · exact absurd (z_rg hw (by omega)) no
  refine zp_ite (fun _ => zp_bind (zp_mono (m_load (b := 0) (n := 0) (s := k) (by omega)) fun μ h8 => ?_)) fun q => absurd (by rw [e6]; decide) q
  obtain ⟨fr, row⟩ := h8
  have row' : ∀ i, i < 40 → μ 107 i = row40 r k i := fun i hi => by
    rw [row i hi]
    unfold row40
    rw [zu_other (by decide)]
  obtain ⟨H0, H1, H2, H3⟩ := H μ fr row'
  refine zp_ite (fun q0 => zp_ite (fun q1 => zp_ite (fun q2 => ?_) fun q2 => ?_) fun q1 => ?_) fun q0 => ?_
  · have w0 : w ≠ 0 := fun e => q0 (by rw [e]; rfl)
    have w1 : w ≠ 1 := fun e => q1 (by rw [e]; rfl)
    have w2 : w ≠ 2 := fun e => q2 (by rw [e]; rfl)
    unfold zf_M_at
    rw [zo_at t4]
    refine zp_bind (zp_some ?_)
    have e : Int32.ofNat (14 + 6 * t) + Int32.ofNat w - 1 = Int32.ofNat (13 + 6 * t + w) := by rw [← Int32.ofNat_add, zo_pred (by omega) (by omega), show 14 + 6 * t + w - 1 = 13 + 6 * t + w by omega]
    rw [e, zo_n (by omega)]
    exact zp_chk fun _ => zp_some (H3 (by omega))
  · have w2 : w = 2 := zo_inj (k := w) (j := 2) (by omega) (by omega) (Classical.not_not.mp q2)
    refine zp_bind (zp_mono (H2 w2) fun b hb => zp_ite (fun z => zp_some ?_) fun z => zp_some ?_)
    · rw [if_pos z] at hb
      exact hb
    · rw [if_neg z] at hb
      exact hb
  · have w1 : w = 1 := zo_inj (k := w) (j := 1) (by omega) (by omega) (Classical.not_not.mp q1)
    unfold zf_M_at
    rw [zo_at t4]
    refine zp_bind (zp_some ?_)
    rw [zo_n (by omega)]
    exact zp_chk fun _ => zp_some (H1 w1)
  · have w0 : w = 0 := zo_inj (k := w) (j := 0) (by omega) (by omega) (Classical.not_not.mp q0)
    exact zp_bind (zp_mono (m_stateOf t4) fun r18 e18 => zp_some (by rw [e18]; exact H0 w0))
theorem p_thread14 {N : Nat} {σ : zS} {τ : zT} {x1 x2 x3 : Int32} (li : LI σ) (ev : EQS σ τ) : zp (zf_X_thread N σ x1 x2 x3) (fun r => zp (zf_M_thread N r.2 x1 x2 x3) (fun s => r.1 = s.1)) := by
  rcases ev.2.2 with ⟨a, b⟩ | ⟨l13, a, b, ρ, m, len, nc, n, h1, pc, n4, h6, h54, hst⟩
  · unfold zf_X_thread zf_M_thread
    exact zp_ite (fun q => absurd a q) fun _ => zp_some (zp_ite (fun q => absurd b q) fun _ => zp_some rfl)
  have pc' := pc
  obtain ⟨⟨m4, p42, p17⟩, _⟩ := pc
  have h42 : σ 4 2 = Int32.ofNat m := by rw [h1 4 (by decide) (by decide)]; exact p42
  have k15 : ¬ σ 2 15 = 0 := by rw [a]; decide
  have k53 : ¬ σ 82 53 = 0 := by rw [b]; decide
  have NO : ∀ r : zS, (∀ q, 82 ≤ q → r q = σ q) → ¬ ((0 ≤ x1 ∧ x1 < Int32.ofNat n) ∧ (0 ≤ x2 ∧ x2 < Int32.ofNat m) ∧ (0 ≤ x3 ∧ x3 < Int32.ofNat 6)) → zp (zf_M_thread N r x1 x2 x3) (fun s => (-102 : Int32) = s.1) := fun r g h => by
    have g82 := g 82 (by decide)
    have g54 : (zx_up r 82 0 0) 82 54 = Int32.ofNat n := by rw [zx_up_same, zu_ne (by decide), g82]; exact h54
    unfold zf_M_thread zf_M_isState
    refine zp_ite (fun _ => zp_bind (zp_bind (zp_mono (m_inN n4 (by rw [g54])) fun r1 k1 => zp_chk fun _ => zp_some ?_))) fun q => absurd (by rw [g82]; exact k53) q
    rcases k1 with ⟨e, no⟩ | ⟨e, k, hk, ek⟩
    · exact zp_ite (fun _ => zp_some rfl) fun q => absurd e q
    refine zp_ite (fun q => absurd (e.symm.trans q) (by decide)) fun _ => zp_bind (zp_mono (m_inN (n := m) (by omega) (by rw [g82, p17])) fun r4 k4 => ?_)
    rcases k4 with ⟨e', no⟩ | ⟨e', f, hf, ef⟩
    · exact zp_ite (fun _ => zp_some rfl) fun q => absurd e' q
    refine zp_ite (fun q => absurd (e'.symm.trans q) (by decide)) fun _ => zp_bind (zp_mono (m_inN (n := 6) (by omega) (by decide)) fun r6 k6 => ?_)
    rcases k6 with ⟨e6, no⟩ | ⟨e6, w, hw, ew⟩
    · exact zp_ite (fun q => absurd e6 q) fun _ => zp_some rfl
    · exact absurd ⟨by rw [ek]; exact z_rg hk n4, by rw [ef]; exact z_rg hf (by omega), by rw [ew]; exact z_rg hw (by omega)⟩ h
  unfold zf_X_thread
  refine zp_ite (fun _ => zp_bind (zp_mono (c_hasThreadN h42 m4) fun r2 k2 => ?_)) fun q => absurd k15 q
  rcases k2 with ⟨e, no⟩ | ⟨e, t, ht, et⟩
  · exact zp_ite (fun _ => zp_some (NO σ (fun _ _ => rfl) fun h => no h.2.1)) fun q => absurd e q
  refine zp_ite (fun q => absurd (e.symm.trans q) (by decide)) fun _ => zp_bind (zp_mono (c_hasN h6 n4) fun r4 k4 => ?_)
  rcases k4 with ⟨e4, no⟩ | ⟨e4, k, hk, ek⟩
  · exact zp_ite (fun q => absurd e4 q) fun _ => zp_some (NO σ (fun _ _ => rfl) fun h => no h.1)
  subst et ek
  have t4 : t < 4 := by omega
  have st := hst k hk
  refine zp_ite (fun _ => zp_bind (zp_mono (c_load pc' h6 n4 hk h1 st) fun r6 ⟨ld, fr⟩ => ?_)) fun q => absurd (by rw [e4]; decide) q
  have g : ∀ q, 82 ≤ q → r6 q = σ q := fun q hq => fr q (by omega) (by omega) (by omega) (by omega)
  have g82 := g 82 (by decide)
  have RA : ∀ {w : Nat} {Q : Int32 × zS → Prop}, w < 6 → (∀ μ : zS, (∀ q, q ≠ 107 → μ q = (zx_up r6 82 0 0) q) → (∀ i, i < 40 → μ 107 i = row40 σ k i) → (w = 0 → Q (μ 107 (15 + 6 * t), μ)) ∧ (w = 1 → Q (μ 107 (14 + 6 * t), μ)) ∧ (w = 2 → zp (zf_M_canStep μ (Int32.ofNat t)) (fun b => Q (if b = 0 then 0 else 1, μ))) ∧ (3 ≤ w → Q (μ 107 (13 + 6 * t + w), μ))) → zp (zf_M_thread N r6 (Int32.ofNat k) (Int32.ofNat t) (Int32.ofNat w)) Q := fun {w} {Q} hw H => m_threadA n4 m4 (by rw [g82]; exact k53) (by rw [g82]; exact h54) (by rw [g82]; exact p17) hk ht hw fun μ f1 f2 => H μ f1 fun i hi => by
    rw [f2 i hi]
    unfold row40
    rw [g 108 (by decide)]
  have tw := st.2.1 t ht
  have W : r6 39 (t + 1) = row5 σ k (t + 1) := ld.2.1 (t + 1) (by omega)
  have LOC : ∀ (j : Nat) (v : Int32), j < 3 → v = (zJ_ushr (r6 39 (t + 1)) (Int32.ofNat (3 * j))) &&& 7 → zp (zf_M_thread N r6 (Int32.ofNat k) (Int32.ofNat t) (Int32.ofNat (3 + j))) (fun s => v = s.1) := fun j v hj hv => by
    refine RA (w := 3 + j) (by omega) fun μ f1 f2 => ⟨fun z => ?_, fun z => ?_, fun z => ?_, fun _ => ?_⟩
    · omega
    · omega
    · omega
    · have l := tw.loc hj
      dsimp only at l ⊢
      rw [hv, W, l, f2 _ (by omega), show 13 + 6 * t + (3 + j) = 16 + 6 * t + j by omega]
  refine zp_ite (fun w0 => ?_) fun w0 => zp_ite (fun w1 => ?_) fun w1 => zp_ite (fun w2 => ?_) fun w2 => zp_ite (fun w3 => ?_) fun w3 => zp_ite (fun w4 => ?_) fun w4 => zp_ite (fun w5 => ?_) fun w5 => ?_
  · subst w0
    refine zp_bind (zp_mono (c_howOf t4) fun r19 e19 => zp_some ?_)
    refine RA (w := 0) (by omega) fun μ f1 f2 => ⟨fun _ => ?_, fun z => absurd z (by decide), fun z => absurd z (by decide), fun z => absurd z (by decide)⟩
    dsimp only
    rw [e19, (ld.2.2.1 t ht).1, f2 _ (by omega)]
  · subst w1
    unfold zf_Machine_stepOf
    refine zp_bind (zp_bind (zp_mono (c_wordOf t4) fun r1 e1 => zp_some (zp_some ?_)))
    refine RA (w := 1) (by omega) fun μ f1 f2 => ⟨fun z => absurd z (by decide), fun _ => ?_, fun z => absurd z (by decide), fun z => absurd z (by decide)⟩
    dsimp only
    rw [e1, W, tw.stp, f2 _ (by omega)]
  · subst w2
    refine zp_bind fun r16 e16 => ?_
    have CAN : ∀ v : Int32, v = (if r16 = 0 then 0 else 1) → zp (zf_M_thread N r6 (Int32.ofNat k) (Int32.ofNat t) 2) (fun s => v = s.1) := fun v hv => by
      refine RA (w := 2) (by omega) fun μ f1 f2 => ⟨fun z => absurd z (by decide), fun z => absurd z (by decide), fun _ => ?_, fun z => absurd z (by decide)⟩
      have pcm : PC m len nc ρ μ := pc'.q (fun q hq => by rw [f1 q (by omega), zu_other (by omega)]; exact g q (by omega)) (by rw [f1 82 (by decide), zx_up_same, zu_ne (by decide), g82])
      refine zp_mono (p_can pcm st ld f2 ht r16 e16) fun b hb => ?_
      dsimp only
      rw [hv, hb.1]
    refine zp_ite (fun z => zp_some (CAN 0 ?_)) fun z => zp_some (CAN 1 ?_)
    · rw [if_pos z]
    · rw [if_neg z]
  · subst w3
    exact zp_bind (zp_mono (c_localOf (j := 0) t4 (by omega) (by decide)) fun r15 e15 => zp_some (LOC 0 _ (by omega) e15))
  · subst w4
    exact zp_bind (zp_mono (c_localOf (j := 1) t4 (by omega) (by decide)) fun r15 e15 => zp_some (LOC 1 _ (by omega) e15))
  · subst w5
    exact zp_bind (zp_mono (c_localOf (j := 2) t4 (by omega) (by decide)) fun r15 e15 => zp_some (LOC 2 _ (by omega) e15))
  · refine zp_some (NO r6 g fun h => ?_)
    obtain ⟨w, hw, ew⟩ := z_ex (m := 6) (by omega) h.2.2.1 h.2.2.2
    have cases : w = 0 ∨ w = 1 ∨ w = 2 ∨ w = 3 ∨ w = 4 ∨ w = 5 := by omega
    rcases cases with c | c | c | c | c | c
    · exact w0 (by rw [ew, c]; rfl)
    · exact w1 (by rw [ew, c]; rfl)
    · exact w2 (by rw [ew, c]; rfl)
    · exact w3 (by rw [ew, c]; rfl)
    · exact w4 (by rw [ew, c]; rfl)
    · exact w5 (by rw [ew, c]; rfl)
