-- both answer alike
set_option maxRecDepth 2000
def EQW (σ : zS) (τ : zT) : Prop := EQV σ τ ∧ NWC σ σ
theorem NWC.cong {a b σ r : zS} (h : NWC a σ) (e : ∀ q, 7 ≤ q ∧ q ≤ 12 → r q = σ q) : NWC b r := by
  unfold NWC at *
  rw [e 7 (by decide), e 8 (by decide), e 9 (by decide), e 10 (by decide), e 11 (by decide), e 12 (by decide)]
  exact h
theorem EQW.x {σ r : zS} {τ : zT} (h : EQW σ τ) (f : FX σ r) (j : ∀ q, 82 ≤ q → r q = σ q) : EQW r τ := ⟨h.1.x f j, h.2.cong fun q hq => f.1 q (by omega) (by omega)⟩
theorem EQW.m {σ r : zS} {τ : zT} (h : EQW σ τ) (f : FM σ r) : EQW r τ := ⟨h.1.m f, h.2.cong fun q hq => f.1 q (by omega) (by omega)⟩
theorem EQW.ended {σ r ρ : zS} {τ : zT} {x : Int32} (h : EQW σ τ) (hr : ρ = zx_up σ 2 11 x ∨ ρ = σ) (f : (∀ q, q ≠ 82 → r q = ρ q) ∧ (∀ i, i ≠ 0 → i ≠ 2 → r 82 i = ρ 82 i)) : EQW r τ := by
  refine ⟨h.1.ended hr f, h.2.cong fun q hq => ?_⟩
  rw [f.1 q (by omega)]
  rcases hr with e | e
  · rw [e, zu_other (by omega)]
  · rw [e]
theorem EQW.feed {σ ρ r : zS} {τ υ : zT} {t n : Nat} {f : Nat → Int32} (h : EQW σ τ) (u1 : υ 1 = τ 1) (a : (∀ q, q ≠ 2 → q ≠ 3 → ρ q = σ q) ∧ (∀ i, i ≠ 11 → ρ 2 i = σ 2 i) ∧ tape (σ 3) (ρ 3) t n f) (b : (∀ q, q ≠ 82 → q ≠ 83 → r q = ρ q) ∧ (∀ i, i ≠ 0 → i ≠ 2 → r 82 i = ρ 82 i) ∧ tape (ρ 83) (r 83) t n f) (hb : ∀ i, -128 ≤ f i ∧ f i ≤ 127) : EQW r υ :=
  ⟨h.1.feed u1 a b hb, h.2.cong fun q hq => by rw [b.1 q (by omega) (by omega), a.1 q (by omega) (by omega)]⟩
theorem EQW.full {σ r : zS} {τ : zT} (h : EQW σ τ) (b : (∀ q, q ≠ 82 → q ≠ 83 → r q = σ q) ∧ (∀ i, i ≠ 0 → i ≠ 2 → r 82 i = σ 82 i) ∧ r 83 = σ 83) : EQW r τ :=
  ⟨h.1.full b, h.2.cong fun q hq => b.1 q (by omega) (by omega)⟩
theorem EQW.read {σ ρ r : zS} {τ υ : zT} (h : EQW σ τ) (f : FRd σ ρ ∧ GRd τ υ) (hi : ∀ q, 82 ≤ q → ρ q = σ q) (lo : ∀ q, q < 82 → r q = ρ q) (n : FMr ρ r) (l : LO ρ r) (z : NWC σ ρ) : EQW r υ :=
  ⟨h.1.read f hi lo n l, z.cong fun q hq => lo q (by omega)⟩
theorem p_guards7 {N : Nat} {σ : zS} {τ : zT} {x1 : Int32} (ev : EQW σ τ) : zp (zf_X_guards N σ x1) (fun r => zp (zf_M_guards N σ x1) (fun s => r = s.1)) := p_guards ev.1.2.2.2 ev.2.1
