-- both answer alike
set_option maxRecDepth 2000
def EM0 (t L : Nat) (k x : Int32) (ρ r : zS) : Prop :=
  (∀ q, q ≠ 4 → q ≠ 5 → q ≠ 7 → q ≠ 8 → q ≠ 9 → q ≠ 10 → q ≠ 11 → q ≠ 12 → q ≠ 29 → r q = ρ q) ∧ (∀ i, i ≠ 4 → r 4 i = ρ 4 i) ∧ r 4 4 = ρ 4 4 + 1 ∧
  r 5 t = Int32.ofNat (L + 1) ∧ (∀ j, j ≠ t → r 5 j = ρ 5 j) ∧
  (r 7 (24 * t + L) = k ∧ r 8 (24 * t + L) = x ∧ r 11 (24 * t + L) = ρ 29 11 ∧ r 12 (24 * t + L) = ρ 29 12) ∧
  (∀ j, j ≠ 24 * t + L → r 7 j = ρ 7 j ∧ r 8 j = ρ 8 j ∧ r 11 j = ρ 11 j ∧ r 12 j = ρ 12 j) ∧
  r 29 7 = Int32.ofNat L ∧ (∀ i, i ≠ 7 → i ≠ 9 → i ≠ 10 → r 29 i = ρ 29 i)
theorem p_X_emit0 {N : Nat} {ρ : zS} {k x : Int32} {t L : Nat} (h8 : ρ 29 8 = Int32.ofNat t) (ht : t < 4) (h5 : ρ 5 t = Int32.ofNat L) (hL : L < 24) : zp (zf_Weaver_emit N ρ k x) (fun r => EM0 t L k x ρ r) := by
  unfold zf_Weaver_emit
  rw [h8]
  refine zp_bind (zp_mono (p_X_lengthOf ht) fun r1 e1 => zp_bind (zp_mono p_X_closeOpen fun r2 c => ?_))
  have e8 : r2 29 8 = Int32.ofNat t := by rw [c.2 8 (by decide) (by decide)]; exact h8
  have e5 : r2 5 t = Int32.ofNat L := by rw [c.1 5 (by decide) (by decide) (by decide)]; exact h5
  have e11 : r2 29 11 = ρ 29 11 := c.2 11 (by decide) (by decide)
  have e12 : r2 29 12 = ρ 29 12 := c.2 12 (by decide) (by decide)
  rw [e8, e11, e12]
  have em : zp (zf_Program_addStep r2 (Int32.ofNat t) k x (ρ 29 11) (ρ 29 12)) (fun r => r.1 = Int32.ofNat L ∧ r.2 = (zx_up (zx_up (zx_up (zx_up (zx_up (zx_up (zx_up (zx_up r2 5 t (Int32.ofNat (L + 1))) 4 4 (r2 4 4 + 1)) 7 (24 * t + L) k) 8 (24 * t + L) x) 11 (24 * t + L) (ρ 29 11)) 12 (24 * t + L) (ρ 29 12)) 9 (24 * t + L) (-1)) 10 (24 * t + L) (-1))) := by
    unfold zf_Program_addStep
    rw [zo_n (by omega), e5, (z24 ht (by omega)).1, zo_1 (by omega)]
    refine zp_ite (fun d => ?_) fun _ => zp_ite (fun d => ?_) fun _ => zp_chk fun _ => zp_ite (fun d => ?_) fun _ => zp_chk fun _ => zp_ite (fun _ => ?_) fun d => ?_
    · have := (zo_lt (k := t) (j := 0) (by omega) (by omega)).mp d
      omega
    · have := (zo_le (k := 4) (j := t) (by omega) (by omega)).mp d
      omega
    · have := (zo_lt (k := L) (j := 0) (by omega) (by omega)).mp d
      omega
    · exact zp_chk fun _ => zp_chk fun _ => zp_chk fun _ => zp_chk fun _ => zp_chk fun _ => zp_chk fun _ => zp_chk fun _ => zp_chk fun _ => zp_chk fun _ => zp_some ⟨rfl, rfl⟩
    · exact absurd ((zo_lt (k := L) (j := 24) (by omega) (by omega)).mpr hL) d
  refine zp_bind (zp_mono em fun r h => ?_)
  rw [h.1, h.2]
  unfold zb_Weaver_emit_59
  refine zp_ite (fun _ => zp_some ?_) fun d => absurd (zo_ne (by omega)) d
  refine ⟨fun q a4 a5 a7 a8 a9 a10 a11 a12 a29 => ?_, fun i hi => ?_, ?_, ?_, fun j hj => ?_, ⟨?_, ?_, ?_, ?_⟩, fun j hj => ⟨?_, ?_, ?_, ?_⟩, ?_, fun i a7 a9 a10 => ?_⟩
  · rw [zu_other a29, zu_other a29, zu_other a10, zu_other a9, zu_other a12, zu_other a11, zu_other a8, zu_other a7, zu_other a4, zu_other a5]; exact c.1 q a9 a10 a29
  · iterate 8 rw [zu_other (by decide)]
    rw [zx_up_same, zu_ne hi, zu_other (by decide), c.1 4 (by decide) (by decide) (by decide)]
  · iterate 8 rw [zu_other (by decide)]
    rw [zx_up_same, zu_eq, c.1 4 (by decide) (by decide) (by decide)]
  · iterate 9 rw [zu_other (by decide)]
    rw [zx_up_same, zu_eq]
  · iterate 9 rw [zu_other (by decide)]
    rw [zx_up_same, zu_ne hj, c.1 5 (by decide) (by decide) (by decide)]
  · iterate 7 rw [zu_other (by decide)]
    rw [zx_up_same, zu_eq]
  · iterate 6 rw [zu_other (by decide)]
    rw [zx_up_same, zu_eq]
  · iterate 5 rw [zu_other (by decide)]
    rw [zx_up_same, zu_eq]
  · iterate 4 rw [zu_other (by decide)]
    rw [zx_up_same, zu_eq]
  · iterate 7 rw [zu_other (by decide)]
    rw [zx_up_same, zu_ne hj]
    iterate 2 rw [zu_other (by decide)]
    rw [c.1 7 (by decide) (by decide) (by decide)]
  · iterate 6 rw [zu_other (by decide)]
    rw [zx_up_same, zu_ne hj]
    iterate 3 rw [zu_other (by decide)]
    rw [c.1 8 (by decide) (by decide) (by decide)]
  · iterate 5 rw [zu_other (by decide)]
    rw [zx_up_same, zu_ne hj]
    iterate 4 rw [zu_other (by decide)]
    rw [c.1 11 (by decide) (by decide) (by decide)]
  · iterate 4 rw [zu_other (by decide)]
    rw [zx_up_same, zu_ne hj]
    iterate 5 rw [zu_other (by decide)]
    rw [c.1 12 (by decide) (by decide) (by decide)]
  · rw [zx_up_same, zu_ne (by decide), zx_up_same, zu_eq]
  · rw [zx_up_same, zu_ne a9, zx_up_same, zu_ne a7]
    iterate 8 rw [zu_other (by decide)]
    exact c.2 i a9 a10
def EM (t L : Nat) (k x : Int32) (ρ r : zS) : Prop :=
  (∀ q, q ≠ 4 → q ≠ 5 → q ≠ 7 → q ≠ 8 → q ≠ 9 → q ≠ 10 → q ≠ 11 → q ≠ 12 → q ≠ 29 → r q = ρ q) ∧ (∀ i, i ≠ 4 → r 4 i = ρ 4 i) ∧ r 4 4 = ρ 4 4 + 1 ∧
  r 5 t = Int32.ofNat (L + 1) ∧ (∀ j, j ≠ t → r 5 j = ρ 5 j) ∧
  (r 7 (24 * t + L) = k ∧ r 8 (24 * t + L) = x ∧ r 11 (24 * t + L) = ρ 29 11 ∧ r 12 (24 * t + L) = ρ 29 12) ∧
  (∀ j, j ≠ 24 * t + L → r 7 j = ρ 7 j ∧ r 8 j = ρ 8 j ∧ r 11 j = ρ 11 j ∧ r 12 j = ρ 12 j) ∧
  r 29 7 = Int32.ofNat L ∧ (∀ i, i ≠ 7 → i ≠ 9 → i ≠ 10 → r 29 i = ρ 29 i) ∧ EW t L ρ r
theorem p_X_emit {N : Nat} {ρ : zS} {k x : Int32} {t L : Nat} (h8 : ρ 29 8 = Int32.ofNat t) (ht : t < 4) (h5 : ρ 5 t = Int32.ofNat L) (hL : L < 24) : zp (zf_Weaver_emit N ρ k x) (fun r => EM t L k x ρ r) := by
  refine zp_mono (zp_and (p_X_emitW (k := k) (x := x) h8 ht h5 hL) (p_X_emit0 h8 ht h5 hL)) ?_
  rintro r ⟨w, a1, a2, a3, a4, a5, a6, a7, a8, a9⟩
  exact ⟨a1, a2, a3, a4, a5, a6, a7, a8, a9, w⟩
def LE0 (μ ν : zS) : Prop := (∀ q, q ≠ 82 → q ≠ 94 → q ≠ 95 → ν q = μ q) ∧ (∀ i, i ≠ 37 → ν 82 i = μ 82 i)
theorem p_M_lead0 {N : Nat} {μ : zS} {x : Int32} : zp (zf_M_lead N μ x) (fun ν => LE0 μ ν) := by
  unfold zf_M_lead
  have go : ∀ (n : Nat) (ν : zS) (v : Int32), LE0 μ ν → zp (zb_M_lead_8 N n ν x v) (fun ν => LE0 μ ν) := by
    intro n
    induction n with
    | zero => intro _ _ _; exact zp_none
    | succ n ih =>
      intro ν v h
      rw [zb_M_lead_8]
      unfold zb_M_lead_62
      refine zp_ite (fun _ => zp_some h) fun _ => zp_chk fun _ => zp_ite (fun _ => zp_chk fun _ => ih _ v ⟨fun q a b c => ?_, fun i hi => ?_⟩) fun _ => zp_chk fun _ => ih _ v ⟨fun q a b c => ?_, fun i hi => ?_⟩
      · rw [zu_other c, zu_other a]; exact h.1 q a b c
      · rw [zu_other (by decide), zx_up_same, zu_ne hi]; exact h.2 i hi
      · rw [zu_other b, zu_other a]; exact h.1 q a b c
      · rw [zu_other (by decide), zx_up_same, zu_ne hi]; exact h.2 i hi
  exact go N μ _ ⟨fun _ _ _ _ => rfl, fun _ _ => rfl⟩
def ADS0 (t L : Nat) (k x : Int32) (μ ν : zS) : Prop :=
  (∀ q, q ≠ 82 → q ≠ 90 → q ≠ 92 → q ≠ 93 → q ≠ 94 → q ≠ 95 → q ≠ 96 → q ≠ 97 → q ≠ 102 → ν q = μ q) ∧ (∀ i, i ≠ 37 → ν 82 i = μ 82 i) ∧
  ν 90 t = Int32.ofNat (L + 1) ∧ (∀ j, j ≠ t → ν 90 j = μ 90 j) ∧
  (ν 92 (24 * t + L) = k ∧ ν 93 (24 * t + L) = x ∧ ν 96 (24 * t + L) = μ 82 40 ∧ ν 97 (24 * t + L) = μ 82 41) ∧
  (∀ j, j ≠ 24 * t + L → ν 92 j = μ 92 j ∧ ν 93 j = μ 93 j ∧ ν 96 j = μ 96 j ∧ ν 97 j = μ 97 j)
theorem p_M_addStep0 {N : Nat} {μ : zS} {k x : Int32} {t L : Nat} (h39 : μ 82 39 = Int32.ofNat t) (ht : t < 4) (h90 : μ 90 t = Int32.ofNat L) (hL : L ≤ 24) (h9 : μ 82 9 = 0) : zp (zf_M_addStep N μ k x) (fun s => (L = 24 ∧ s.1 = 0 ∧ MFl s.2 (μ 82 5)) ∨ (L < 24 ∧ s.1 = Int32.ofNat L ∧ ADS0 t L k x μ s.2)) := by
  unfold zf_M_addStep
  rw [h39, zo_n (m := t) (by omega), h90, (z24 ht hL).2.1]
  refine zp_chk fun _ => zp_ite (fun d => ?_) fun d => ?_
  · have l : L < 24 := by
      have : L ≠ 24 := fun e => d (by rw [e]; rfl)
      omega
    refine zp_chk fun _ => zp_chk fun _ => zp_chk fun _ => zp_chk fun _ => zp_chk fun _ => zp_chk fun _ => zp_bind (zp_mono p_M_lead0 fun r9 g => ?_)
    have e39 : r9 82 39 = Int32.ofNat t := by
      rw [g.2 39 (by decide)]
      iterate 6 rw [zu_other (by decide)]
      exact h39
    have e90 : r9 90 = μ 90 := by
      rw [g.1 90 (by decide) (by decide) (by decide)]
      iterate 6 rw [zu_other (by decide)]
    have base : ADS0 t L k x μ (zx_up r9 90 t (Int32.ofNat (L + 1))) := by
      refine ⟨fun q a82 a90 a92 a93 a94 a95 a96 a97 a102 => ?_, fun i hi => ?_, ?_, fun j hj => ?_, ⟨?_, ?_, ?_, ?_⟩, fun j hj => ⟨?_, ?_, ?_, ?_⟩⟩
      · rw [zu_other a90, g.1 q a82 a94 a95, zu_other a97, zu_other a96, zu_other a95, zu_other a94, zu_other a93, zu_other a92]
      · rw [zu_other (by decide), g.2 i hi]
        iterate 6 rw [zu_other (by decide)]
      · rw [zx_up_same, zu_eq]
      · rw [zx_up_same, zu_ne hj, e90]
      · rw [zu_other (by decide), g.1 92 (by decide) (by decide) (by decide)]
        iterate 5 rw [zu_other (by decide)]
        rw [zx_up_same, zu_eq]
      · rw [zu_other (by decide), g.1 93 (by decide) (by decide) (by decide)]
        iterate 4 rw [zu_other (by decide)]
        rw [zx_up_same, zu_eq]
      · rw [zu_other (by decide), g.1 96 (by decide) (by decide) (by decide)]
        rw [zu_other (by decide), zx_up_same, zu_eq]
      · rw [zu_other (by decide), g.1 97 (by decide) (by decide) (by decide)]
        rw [zx_up_same, zu_eq]
      · rw [zu_other (by decide), g.1 92 (by decide) (by decide) (by decide)]
        iterate 5 rw [zu_other (by decide)]
        rw [zx_up_same, zu_ne hj]
      · rw [zu_other (by decide), g.1 93 (by decide) (by decide) (by decide)]
        iterate 4 rw [zu_other (by decide)]
        rw [zx_up_same, zu_ne hj, zu_other (by decide)]
      · rw [zu_other (by decide), g.1 96 (by decide) (by decide) (by decide)]
        rw [zu_other (by decide), zx_up_same, zu_ne hj]
        iterate 4 rw [zu_other (by decide)]
      · rw [zu_other (by decide), g.1 97 (by decide) (by decide) (by decide)]
        rw [zx_up_same, zu_ne hj]
        iterate 5 rw [zu_other (by decide)]
    rw [e39, zo_n (m := t) (by omega), e90, h90, zo_1 (by omega)]
    refine zp_chk fun _ => zp_chk fun _ => zp_ite (fun _ => zp_some (Or.inr ⟨l, rfl, base⟩)) fun _ => ?_
    unfold zf_M_wayOf
    refine zp_bind (zp_chk fun _ => zp_some (zp_some (Or.inr ⟨l, rfl, ?_⟩)))
    obtain ⟨b1, b2, b3, b4, b5, b6⟩ := base
    refine ⟨fun q a82 a90 a92 a93 a94 a95 a96 a97 a102 => ?_, fun i hi => ?_, ?_, fun j hj => ?_, ?_, fun j hj => ?_⟩ <;> dsimp only
    · rw [zu_other a82, zu_other a102]; exact b1 q a82 a90 a92 a93 a94 a95 a96 a97 a102
    · rw [zx_up_same, zu_ne hi, zu_other (by decide)]; exact b2 i hi
    · rw [zu_other (by decide), zu_other (by decide)]; exact b3
    · rw [zu_other (by decide), zu_other (by decide)]; exact b4 j hj
    · iterate 8 rw [zu_other (by decide)]
      exact b5
    · iterate 8 rw [zu_other (by decide)]
      exact b6 j hj
  · have d' : Int32.ofNat L = 24 := Classical.not_not.mp d
    refine zp_bind (zp_mono (p_M_fail h9) fun r hr => zp_some (Or.inl ⟨zo_inj (by omega) (by omega) d', rfl, hr⟩))
def ADS (t L : Nat) (k x : Int32) (μ ν : zS) : Prop :=
  (∀ q, q ≠ 82 → q ≠ 90 → q ≠ 92 → q ≠ 93 → q ≠ 94 → q ≠ 95 → q ≠ 96 → q ≠ 97 → q ≠ 102 → ν q = μ q) ∧ (∀ i, i ≠ 37 → ν 82 i = μ 82 i) ∧
  ν 90 t = Int32.ofNat (L + 1) ∧ (∀ j, j ≠ t → ν 90 j = μ 90 j) ∧
  (ν 92 (24 * t + L) = k ∧ ν 93 (24 * t + L) = x ∧ ν 96 (24 * t + L) = μ 82 40 ∧ ν 97 (24 * t + L) = μ 82 41) ∧
  (∀ j, j ≠ 24 * t + L → ν 92 j = μ 92 j ∧ ν 93 j = μ 93 j ∧ ν 96 j = μ 96 j ∧ ν 97 j = μ 97 j) ∧
  (∀ lo, Ch (μ 102) lo (μ 82 37) → (∀ j, j ∈ lo → j < 2 * L) → AW t L lo k μ ν)
theorem p_M_addStep {N : Nat} {μ : zS} {k x : Int32} {t L : Nat} (h39 : μ 82 39 = Int32.ofNat t) (ht : t < 4) (h90 : μ 90 t = Int32.ofNat L) (hL : L ≤ 24) (h9 : μ 82 9 = 0) : zp (zf_M_addStep N μ k x) (fun s => (L = 24 ∧ s.1 = 0 ∧ MFl s.2 (μ 82 5)) ∨ (L < 24 ∧ s.1 = Int32.ofNat L ∧ ADS t L k x μ s.2)) := by
  have wy : zp (zf_M_addStep N μ k x) (fun s => L < 24 → ∀ lo, Ch (μ 102) lo (μ 82 37) → (∀ j, j ∈ lo → j < 2 * L) → AW t L lo k μ s.2) := fun s e l lo hc hb => p_M_addStepW h39 ht h90 l hc hb s e
  refine zp_mono (zp_and wy (p_M_addStep0 h39 ht h90 hL h9)) ?_
  rintro s ⟨w, h | ⟨l, e, a1, a2, a3, a4, a5, a6⟩⟩
  · exact Or.inl h
  · exact Or.inr ⟨l, e, a1, a2, a3, a4, a5, a6, w l⟩
