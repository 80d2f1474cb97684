-- both answer alike
set_option maxRecDepth 2000
theorem p_count {N : Nat} {σ : zS} {τ : zT} {x : Int32} (ev : EQV σ τ) : zp (zf_X_count σ x) (fun r => zp (zf_M_count N σ x) (fun s => r = s.1)) := by
  unfold zf_X_count zf_M_count
  rcases ev.2.2.2 with ⟨a, b⟩ | ⟨a, b, c, len, h1, h2, h3, h4, h5, h6, h7⟩
  · exact zp_ite (fun q => absurd a q) fun _ => zp_some (zp_ite (fun q => absurd b q) fun _ => zp_some rfl)
  · have a' : ¬ σ 2 13 = 0 := by rw [a]; decide
    have b' : ¬ σ 82 21 = 0 := by rw [b]; decide
    refine zp_ite (fun _ => ?_) fun q => absurd a' q
    refine zp_ite (fun x0 => zp_some (zp_ite (fun _ => zp_ite (fun _ => zp_some ?_) fun q => absurd x0 q) fun q => absurd b' q)) fun x0 => zp_ite (fun x1 => zp_some (zp_ite (fun _ => zp_ite (fun q => absurd q x0) fun _ => zp_ite (fun _ => zp_some ?_) fun q => absurd x1 q) fun q => absurd b' q)) fun x1 => zp_ite (fun x2 => zp_some (zp_ite (fun _ => zp_ite (fun q => absurd q x0) fun _ => zp_ite (fun q => absurd q x1) fun _ => zp_ite (fun _ => zp_some ?_) fun q => absurd x2 q) fun q => absurd b' q)) fun x2 => zp_ite (fun x3 => zp_some (zp_ite (fun _ => zp_ite (fun q => absurd q x0) fun _ => zp_ite (fun q => absurd q x1) fun _ => zp_ite (fun q => absurd q x2) fun _ => zp_ite (fun _ => zp_some ?_) fun q => absurd x3 q) fun q => absurd b' q)) fun x3 => zp_ite (fun x4 => zp_some (zp_ite (fun _ => zp_ite (fun q => absurd q x0) fun _ => zp_ite (fun q => absurd q x1) fun _ => zp_ite (fun q => absurd q x2) fun _ => zp_ite (fun q => absurd q x3) fun _ => zp_ite (fun _ => zp_bind (zp_mono (p_M_allSteps (nt := c 2) (len := len) ?_ h1 ?_) fun u hu => zp_some ?_)) fun q => absurd x4 q) fun q => absurd b' q)) fun x4 => zp_some (zp_ite (fun _ => zp_ite (fun q => absurd q x0) fun _ => zp_ite (fun q => absurd q x1) fun _ => zp_ite (fun q => absurd q x2) fun _ => zp_ite (fun q => absurd q x3) fun _ => zp_ite (fun q => absurd q x4) fun _ => zp_some rfl) fun q => absurd b' q)
    · exact (h2 0 (by decide)).1.trans (h2 0 (by decide)).2.symm
    · exact (h2 1 (by decide)).1.trans (h2 1 (by decide)).2.symm
    · exact (h2 2 (by decide)).1.trans (h2 2 (by decide)).2.symm
    · exact h6
    · rw [zx_up_same, zu_ne (by decide)]; exact (h2 2 (by decide)).2
    · intro t ht
      rw [zu_other (by decide)]
      exact ⟨(h3 t ht).1, (h3 t ht).2.2⟩
    · dsimp only
      rw [hu]; exact h5
theorem p_M_end {σ : zS} {x : Int32} : zp (zf_M_end σ x) (fun r => (∀ q, q ≠ 82 → r q = σ q) ∧ (∀ i, i ≠ 0 → i ≠ 2 → r 82 i = σ 82 i)) := by
  have A : ∀ v s, zp (zb_M_end_18 σ v s) (fun r => (∀ q, q ≠ 82 → r q = σ q) ∧ (∀ i, i ≠ 0 → i ≠ 2 → r 82 i = σ 82 i)) := fun v s => by
    unfold zb_M_end_18 zb_M_end_37
    exact zp_ite (fun _ => zp_some ⟨fun q a => by rw [zu_other a, zu_other a], fun i a b => by rw [zx_up_same, zu_ne b, zx_up_same, zu_ne a]⟩) fun _ => zp_some ⟨fun q a => by rw [zu_other a, zu_other a], fun i a b => by rw [zx_up_same, zu_ne b, zx_up_same, zu_ne a]⟩
  unfold zf_M_end
  exact zp_bind fun r _ => zp_ite (fun _ => A _ _) fun _ => A _ _
theorem EQV.ended {σ r ρ : zS} {τ : zT} {x : Int32} (h : EQV σ τ) (hr : ρ = zx_up σ 2 11 x ∨ ρ = σ) (f : (∀ q, q ≠ 82 → r q = ρ q) ∧ (∀ i, i ≠ 0 → i ≠ 2 → r 82 i = ρ 82 i)) : EQV r τ := by
  obtain ⟨h1, h2, h3, h4⟩ := h
  have e : (∀ q, q ≠ 2 → ρ q = σ q) ∧ (ρ 2 13 = σ 2 13) := by
    rcases hr with q | q <;> subst q
    · exact ⟨fun q a => zu_other a, by rw [zx_up_same, zu_ne (by decide)]⟩
    · exact ⟨fun _ _ => rfl, rfl⟩
  have g : ∀ q, q ≠ 2 → q ≠ 82 → r q = σ q := fun q a b => by rw [f.1 q b, e.1 q a]
  have g2 : ∀ i, i ≠ 0 → i ≠ 2 → r 82 i = σ 82 i := fun i a b => by rw [f.2 i a b, e.1 82 (by decide)]
  exact ⟨h1, by rw [g 3 (by decide) (by decide), g 83 (by decide) (by decide)]; exact h2, by rw [g 83 (by decide) (by decide)]; exact h3, h4.of (by rw [f.1 2 (by decide)]; exact e.2) (fun i _ => by rw [g 4 (by decide) (by decide)]) (g 5 (by decide) (by decide)) (g2 21 (by decide) (by decide)) (fun i hi => g2 i (by omega) (by omega)) (g 90 (by decide) (by decide)) (fun q hq => g q (by omega) (by omega)) (fun q hq => g q (by omega) (by omega))⟩
theorem EQV.feed {σ ρ r : zS} {τ υ : zT} {t n : Nat} {f : Nat → Int32} (h : EQV σ τ) (u1 : υ 1 = τ 1) (a : (∀ q, q ≠ 2 → q ≠ 3 → ρ q = σ q) ∧ (∀ i, i ≠ 11 → ρ 2 i = σ 2 i) ∧ tape (σ 3) (ρ 3) t n f) (b : (∀ q, q ≠ 82 → q ≠ 83 → r q = ρ q) ∧ (∀ i, i ≠ 0 → i ≠ 2 → r 82 i = ρ 82 i) ∧ tape (ρ 83) (r 83) t n f) (hb : ∀ i, -128 ≤ f i ∧ f i ≤ 127) : EQV r υ := by
  obtain ⟨h1, h2, h3, h4⟩ := h
  have e83 : ρ 83 = σ 83 := a.1 83 (by decide) (by decide)
  have e82 : ρ 82 = σ 82 := a.1 82 (by decide) (by decide)
  have g : ∀ q, q ≠ 2 → q ≠ 3 → q ≠ 82 → q ≠ 83 → r q = σ q := fun q x y z w => by rw [b.1 q z w, a.1 q x y]
  refine ⟨by unfold RS at *; rw [u1]; exact h1, ?_, fun i => ?_, h4.of (by rw [b.1 2 (by decide) (by decide), a.2.1 13 (by decide)]) (fun i _ => by rw [g 4 (by decide) (by decide) (by decide) (by decide)]) (g 5 (by decide) (by decide) (by decide) (by decide)) (by rw [b.2.1 21 (by decide) (by decide), e82]) (fun i hi => by rw [b.2.1 i (by omega) (by omega), e82]) (g 90 (by decide) (by decide) (by decide) (by decide)) (fun q hq => g q (by omega) (by omega) (by omega) (by omega)) (fun q hq => g q (by omega) (by omega) (by omega) (by omega))⟩
  · funext j
    rw [b.1 3 (by decide) (by decide), a.2.2 j, b.2.2 j, e83, h2]
  · rw [b.2.2 i, e83]
    by_cases c : t ≤ i ∧ i < t + n
    · rw [if_pos c]; exact hb _
    · rw [if_neg c]; exact h3 i
theorem EQV.full {σ r : zS} {τ : zT} (h : EQV σ τ) (b : (∀ q, q ≠ 82 → q ≠ 83 → r q = σ q) ∧ (∀ i, i ≠ 0 → i ≠ 2 → r 82 i = σ 82 i) ∧ r 83 = σ 83) : EQV r τ := by
  obtain ⟨h1, h2, h3, h4⟩ := h
  exact ⟨h1, by rw [b.1 3 (by decide) (by decide), b.2.2]; exact h2, by rw [b.2.2]; exact h3, h4.of (by rw [b.1 2 (by decide) (by decide)]) (fun i _ => by rw [b.1 4 (by decide) (by decide)]) (b.1 5 (by decide) (by decide)) (b.2.1 21 (by decide) (by decide)) (fun i hi => b.2.1 i (by omega) (by omega)) (b.1 90 (by decide) (by decide)) (fun q hq => b.1 q (by omega) (by omega)) (fun q hq => b.1 q (by omega) (by omega))⟩
theorem fed_rng {x1 x2 x3 x4 x5 : Int32} (i : Nat) : -128 ≤ fed x1 x2 x3 x4 x5 i ∧ fed x1 x2 x3 x4 x5 i ≤ 127 := z_brange _
theorem EQV.read {σ ρ r : zS} {τ υ : zT} (h : EQV σ τ) (f : FRd σ ρ ∧ GRd τ υ) (hi : ∀ q, 82 ≤ q → ρ q = σ q) (lo : ∀ q, q < 82 → r q = ρ q) (n : FMr ρ r) (l : LO ρ r) : EQV r υ := by
  obtain ⟨h1, h2, h3, h4⟩ := h
  have e83 : r 83 = σ 83 := (show r 83 = ρ 83 from n).trans (hi 83 (by decide))
  refine ⟨by unfold RS at *; rw [show υ 1 = τ 1 from f.2]; exact h1, by rw [lo 3 (by decide), f.1.1, e83]; exact h2, by rw [e83]; exact h3, l.of (by rw [lo 2 (by decide)]) (fun i _ => by rw [lo 4 (by decide)]) (lo 5 (by decide)) rfl (fun _ _ => rfl) rfl (fun q hq => lo q (by omega)) (fun _ _ => rfl)⟩
