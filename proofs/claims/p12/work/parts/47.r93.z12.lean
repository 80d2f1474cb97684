-- both answer alike
set_option maxRecDepth 2000
theorem EQT.read {σ ρ r : zS} {τ υ : zT} (h : EQT σ τ) (f : FRd σ ρ ∧ GRd τ υ) (hi : ∀ q, 82 ≤ q → ρ q = σ q) (lo : ∀ q, q < 82 → r q = ρ q) (n : FMr ρ r) (l : LO ρ r) (z : NWC σ ρ ∧ (((ρ 2 13 = 1 → ∀ b, b < 4 → SPB ρ b) ∧ ρ 2 14 = 0 ∧ ρ 2 15 = 0) ∧ ρ 2 16 = -1)) (fl : ((ρ 2 13 = 1 → WKA ρ r ∧ JTH ρ) ∧ (ρ 2 13 = 1 → FLV ρ r) ∧ (ρ 2 13 = 1 → NSF ρ)) ∧ (r 82 53 = 0 ∧ r 82 62 = -1) ∧ (ρ 2 13 = 1 → FLG ρ r ∧ SLT ρ)) : EQT r υ :=
  ⟨h.1.read f hi lo n l ⟨z.1, z.2.1⟩ ⟨fl.1, fl.2.1.1, fl.2.2⟩, Or.inl ⟨by rw [lo 2 (by decide)]; exact z.2.2, fl.2.1.2⟩⟩
theorem p_runT {N : Nat} {σ : zS} {τ : zT} (li : LI σ) (ev : EQT σ τ) : zp (zf_X_run N σ) (fun r => JR r.2 ∧ zp (zf_M_run N r.2) (fun s => FM r.2 s.2 → JSZ s.2 ∧ TLL s.2)) := by
  refine zp_mono (zp_and (p_runZ li ev.1) (zp_and (c_runZ li ev.1) c_run16)) fun r h => ⟨h.1.1, ?_⟩
  rcases h.2.2 with ⟨a, e⟩ | ⟨a, e⟩
  · have T : zp (zf_M_run N r.2) (fun s => TLL s.2) := by
      rw [e]
      rcases ev.1.1.1.1.2.2.2 with ⟨_, b⟩ | ⟨a', _⟩
      · unfold zf_M_run
        refine zp_ite (fun q => absurd b q) fun _ => zp_some ?_
        exact ev.2.of (by dsimp only; rw [zu_other (by decide)]) (by dsimp only; rw [zu_other (by decide)]) (by dsimp only; rw [zx_up_same, zu_ne (by decide)]) (by dsimp only; rw [zx_up_same, zu_ne (by decide)]) (by dsimp only; rw [zu_other (by decide)])
      · rw [a] at a'
        exact absurd a' (by decide)
    exact zp_mono (zp_and h.1.2 T) fun s hs fm => ⟨hs.1 fm, hs.2⟩
  · rcases h.2.1 with ⟨a', _⟩ | ⟨_, _, _, h21⟩
    · exact absurd a' a
    · exact zp_mono (zp_and h.1.2 (m_run62 h21)) fun s hs fm => ⟨hs.1 fm, Or.inl ⟨by rw [fm.1 2 (by decide) (by decide)]; exact e, hs.2⟩⟩
theorem EQT.run {σ r : zS} {τ : zT} (h : EQR σ τ) (f : FM σ r) (k : FM σ r → JSZ r ∧ TLL r) : EQT r τ := ⟨⟨h.m f, (k f).1⟩, (k f).2⟩
theorem EQT.told {σ r : zS} {τ : zT} (h : EQZ σ τ) (f : FM σ r ∧ FH σ r) (k : TLL r) : EQT r τ := ⟨h.m f, k⟩
