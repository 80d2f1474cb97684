-- both answer alike
set_option maxRecDepth 2000
def CO0 (ρ r : zS) : Prop := (∀ q, q ≠ 9 → q ≠ 10 → q ≠ 29 → r q = ρ q) ∧ (∀ i, i ≠ 9 → i ≠ 10 → r 29 i = ρ 29 i)
theorem p_X_closeOpen {N : Nat} {ρ : zS} {x : Int32} : zp (zf_Weaver_closeOpen N ρ x) (fun r => CO0 ρ r) := by
  unfold zf_Weaver_closeOpen
  have go : ∀ (n : Nat) (r : zS) (v : Int32), CO0 ρ r → zp (zb_Weaver_closeOpen_2 N n r x v) (fun r => CO0 ρ r) := by
    intro n
    induction n with
    | zero => intro _ _ _; exact zp_none
    | succ n ih =>
      intro r v h
      have A : ∀ r', CO0 ρ r' → zp (zb_Weaver_closeOpen_70 (zb_Weaver_closeOpen_2 N n) N r' x v) (fun r => CO0 ρ r) := fun r' h' => by
        unfold zb_Weaver_closeOpen_70; exact ih r' (v + 1) h'
      have U9 : ∀ r' i y, CO0 ρ r' → CO0 ρ (zx_up r' 9 i y) := fun r' i y h' => ⟨fun q a b c => by rw [zu_other a]; exact h'.1 q a b c, fun j a b => by rw [zu_other (by decide)]; exact h'.2 j a b⟩
      have U10 : ∀ r' i y, CO0 ρ r' → CO0 ρ (zx_up r' 10 i y) := fun r' i y h' => ⟨fun q a b c => by rw [zu_other b]; exact h'.1 q a b c, fun j a b => by rw [zu_other (by decide)]; exact h'.2 j a b⟩
      have B : ∀ r' s, CO0 ρ r' → zp (zb_Weaver_closeOpen_49 (zb_Weaver_closeOpen_2 N n) N r' x v s) (fun r => CO0 ρ r) := fun r' s h' => by
        unfold zb_Weaver_closeOpen_49
        exact zp_ite (fun _ => A r' h') fun _ => zp_chk fun _ => A _ (U10 r' _ _ h')
      rw [zb_Weaver_closeOpen_2]
      refine zp_ite (fun _ => zp_some ⟨fun q a b c => ?_, fun i a b => ?_⟩) fun _ => zp_ite (fun _ => A r h) fun _ => zp_ite (fun _ => A r h) fun _ => zp_ite (fun _ => B r _ h) fun _ => zp_chk fun _ => B _ _ (U9 r _ _ h)
      · rw [zu_other c, zu_other c]; exact h.1 q a b c
      · rw [zx_up_same, zu_ne b, zx_up_same, zu_ne a]; exact h.2 i a b
  exact go N ρ 0 ⟨fun _ _ _ _ => rfl, fun _ _ _ => rfl⟩
theorem z24 {t L : Nat} (ht : t < 4) (hL : L ≤ 24) : (Int32.ofNat t * 24 + Int32.ofNat L).toNatClampNeg = 24 * t + L ∧ (24 * Int32.ofNat t + Int32.ofNat L).toNatClampNeg = 24 * t + L ∧ Int32.ofNat t * 24 + Int32.ofNat L = Int32.ofNat (24 * t + L) ∧ 24 * Int32.ofNat t + Int32.ofNat L = Int32.ofNat (24 * t + L) := by
  have e : 24 * Int32.ofNat t = Int32.ofNat (24 * t) := by
    apply Int32.toInt_inj.mp
    have k6 : (24 : Int32).toInt = 24 := rfl
    rw [Int32.toInt_mul, zo_ti (by omega), zo_ti (by omega), k6, Int.bmod_def]
    omega
  have e2 : Int32.ofNat t * 24 = Int32.ofNat (24 * t) := by rw [Int32.mul_comm]; exact e
  have s : Int32.ofNat (24 * t) + Int32.ofNat L = Int32.ofNat (24 * t + L) := by
    apply Int32.toInt_inj.mp
    have a := zo_ti (m := 24 * t) (by omega)
    have b := zo_ti (m := L) (by omega)
    rw [z_ti_add (by omega) (by omega), a, b, zo_ti (by omega)]
    omega
  rw [e, e2, s]
  exact ⟨zo_n (by omega), zo_n (by omega), rfl, rfl⟩
def EM (t L : Nat) (k x : Int32) (ρ r : zS) : Prop :=
  (∀ q, q ≠ 4 → q ≠ 5 → q ≠ 7 → q ≠ 8 → q ≠ 9 → q ≠ 10 → q ≠ 11 → q ≠ 12 → q ≠ 29 → r q = ρ q) ∧ (∀ i, i ≠ 4 → r 4 i = ρ 4 i) ∧ r 4 4 = ρ 4 4 + 1 ∧
  r 5 t = Int32.ofNat (L + 1) ∧ (∀ j, j ≠ t → r 5 j = ρ 5 j) ∧
  (r 7 (24 * t + L) = k ∧ r 8 (24 * t + L) = x ∧ r 11 (24 * t + L) = ρ 29 11 ∧ r 12 (24 * t + L) = ρ 29 12) ∧
  (∀ j, j ≠ 24 * t + L → r 7 j = ρ 7 j ∧ r 8 j = ρ 8 j ∧ r 11 j = ρ 11 j ∧ r 12 j = ρ 12 j) ∧
  r 29 7 = Int32.ofNat L ∧ (∀ i, i ≠ 7 → i ≠ 9 → i ≠ 10 → r 29 i = ρ 29 i)
theorem p_X_lengthOf {ρ : zS} {t : Nat} (ht : t < 4) : zp (zf_Program_lengthOf ρ (Int32.ofNat t)) (fun r => r = ρ 5 t) := by
  unfold zf_Program_lengthOf
  refine zp_ite (fun d => ?_) fun _ => zp_ite (fun d => ?_) fun _ => zp_chk fun _ => zp_some (by rw [zo_n (by omega)])
  · have := (zo_lt (k := t) (j := 0) (by omega) (by omega)).mp d
    omega
  · have := (zo_le (k := 4) (j := t) (by omega) (by omega)).mp d
    omega
theorem p_X_emit {N : Nat} {ρ : zS} {k x : Int32} {t L : Nat} (h8 : ρ 29 8 = Int32.ofNat t) (ht : t < 4) (h5 : ρ 5 t = Int32.ofNat L) (hL : L < 24) : zp (zf_Weaver_emit N ρ k x) (fun r => EM t L k x ρ r) := by
  unfold zf_Weaver_emit
  rw [h8]
  refine zp_bind (zp_mono (p_X_lengthOf ht) fun r1 e1 => zp_bind (zp_mono p_X_closeOpen fun r2 c => ?_))
  have e8 : r2 29 8 = Int32.ofNat t := by rw [c.2 8 (by decide) (by decide)]; exact h8
  have e5 : r2 5 t = Int32.ofNat L := by rw [c.1 5 (by decide) (by decide) (by decide)]; exact h5
  have e11 : r2 29 11 = ρ 29 11 := c.2 11 (by decide) (by decide)
  have e12 : r2 29 12 = ρ 29 12 := c.2 12 (by decide) (by decide)
  rw [e8, e11, e12]
  have em : zp (zf_Program_addStep r2 (Int32.ofNat t) k x (ρ 29 11) (ρ 29 12)) (fun r => r.1 = Int32.ofNat L ∧ r.2 = (zx_up (zx_up (zx_up (zx_up (zx_up (zx_up (zx_up (zx_up r2 5 t (Int32.ofNat (L + 1))) 4 4 (r2 4 4 + 1)) 7 (24 * t + L) k) 8 (24 * t + L) x) 11 (24 * t + L) (ρ 29 11)) 12 (24 * t + L) (ρ 29 12)) 9 (24 * t + L) (-1)) 10 (24 * t + L) (-1))) := by
    unfold zf_Program_addStep
    rw [zo_n (by omega), e5, (z24 ht (by omega)).1, zo_1 (by omega)]
    refine zp_ite (fun d => ?_) fun _ => zp_ite (fun d => ?_) fun _ => zp_chk fun _ => zp_ite (fun d => ?_) fun _ => zp_chk fun _ => zp_ite (fun _ => ?_) fun d => ?_
    · have := (zo_lt (k := t) (j := 0) (by omega) (by omega)).mp d
      omega
    · have := (zo_le (k := 4) (j := t) (by omega) (by omega)).mp d
      omega
    · have := (zo_lt (k := L) (j := 0) (by omega) (by omega)).mp d
      omega
    · exact zp_chk fun _ => zp_chk fun _ => zp_chk fun _ => zp_chk fun _ => zp_chk fun _ => zp_chk fun _ => zp_chk fun _ => zp_chk fun _ => zp_chk fun _ => zp_some ⟨rfl, rfl⟩
    · exact absurd ((zo_lt (k := L) (j := 24) (by omega) (by omega)).mpr hL) d
  refine zp_bind (zp_mono em fun r h => ?_)
  rw [h.1, h.2]
  unfold zb_Weaver_emit_59
  refine zp_ite (fun _ => zp_some ?_) fun d => absurd (zo_ne (by omega)) d
  refine ⟨fun q a4 a5 a7 a8 a9 a10 a11 a12 a29 => ?_, fun i hi => ?_, ?_, ?_, fun j hj => ?_, ⟨?_, ?_, ?_, ?_⟩, fun j hj => ⟨?_, ?_, ?_, ?_⟩, ?_, fun i a7 a9 a10 => ?_⟩
  · rw [zu_other a29, zu_other a29, zu_other a10, zu_other a9, zu_other a12, zu_other a11, zu_other a8, zu_other a7, zu_other a4, zu_other a5]; exact c.1 q a9 a10 a29
  · iterate 8 rw [zu_other (by decide)]
    rw [zx_up_same, zu_ne hi, zu_other (by decide), c.1 4 (by decide) (by decide) (by decide)]
  · iterate 8 rw [zu_other (by decide)]
    rw [zx_up_same, zu_eq, c.1 4 (by decide) (by decide) (by decide)]
  · iterate 9 rw [zu_other (by decide)]
    rw [zx_up_same, zu_eq]
  · iterate 9 rw [zu_other (by decide)]
    rw [zx_up_same, zu_ne hj, c.1 5 (by decide) (by decide) (by decide)]
  · iterate 7 rw [zu_other (by decide)]
    rw [zx_up_same, zu_eq]
  · iterate 6 rw [zu_other (by decide)]
    rw [zx_up_same, zu_eq]
  · iterate 5 rw [zu_other (by decide)]
    rw [zx_up_same, zu_eq]
  · iterate 4 rw [zu_other (by decide)]
    rw [zx_up_same, zu_eq]
  · iterate 7 rw [zu_other (by decide)]
    rw [zx_up_same, zu_ne hj]
    iterate 2 rw [zu_other (by decide)]
    rw [c.1 7 (by decide) (by decide) (by decide)]
  · iterate 6 rw [zu_other (by decide)]
    rw [zx_up_same, zu_ne hj]
    iterate 3 rw [zu_other (by decide)]
    rw [c.1 8 (by decide) (by decide) (by decide)]
  · iterate 5 rw [zu_other (by decide)]
    rw [zx_up_same, zu_ne hj]
    iterate 4 rw [zu_other (by decide)]
    rw [c.1 11 (by decide) (by decide) (by decide)]
  · iterate 4 rw [zu_other (by decide)]
    rw [zx_up_same, zu_ne hj]
    iterate 5 rw [zu_other (by decide)]
    rw [c.1 12 (by decide) (by decide) (by decide)]
  · rw [zx_up_same, zu_ne (by decide), zx_up_same, zu_eq]
  · rw [zx_up_same, zu_ne a9, zx_up_same, zu_ne a7]
    iterate 8 rw [zu_other (by decide)]
    exact c.2 i a9 a10
def LE0 (μ ν : zS) : Prop := (∀ q, q ≠ 82 → q ≠ 94 → q ≠ 95 → ν q = μ q) ∧ (∀ i, i ≠ 37 → ν 82 i = μ 82 i)
theorem p_M_lead0 {N : Nat} {μ : zS} {x : Int32} : zp (zf_M_lead N μ x) (fun ν => LE0 μ ν) := by
  unfold zf_M_lead
  have go : ∀ (n : Nat) (ν : zS) (v : Int32), LE0 μ ν → zp (zb_M_lead_8 N n ν x v) (fun ν => LE0 μ ν) := by
    intro n
    induction n with
    | zero => intro _ _ _; exact zp_none
    | succ n ih =>
      intro ν v h
      rw [zb_M_lead_8]
      unfold zb_M_lead_62
      refine zp_ite (fun _ => zp_some h) fun _ => zp_chk fun _ => zp_ite (fun _ => zp_chk fun _ => ih _ v ⟨fun q a b c => ?_, fun i hi => ?_⟩) fun _ => zp_chk fun _ => ih _ v ⟨fun q a b c => ?_, fun i hi => ?_⟩
      · rw [zu_other c, zu_other a]; exact h.1 q a b c
      · rw [zu_other (by decide), zx_up_same, zu_ne hi]; exact h.2 i hi
      · rw [zu_other b, zu_other a]; exact h.1 q a b c
      · rw [zu_other (by decide), zx_up_same, zu_ne hi]; exact h.2 i hi
  exact go N μ _ ⟨fun _ _ _ _ => rfl, fun _ _ => rfl⟩
def ADS (t L : Nat) (k x : Int32) (μ ν : zS) : Prop :=
  (∀ q, q ≠ 82 → q ≠ 90 → q ≠ 92 → q ≠ 93 → q ≠ 94 → q ≠ 95 → q ≠ 96 → q ≠ 97 → q ≠ 102 → ν q = μ q) ∧ (∀ i, i ≠ 37 → ν 82 i = μ 82 i) ∧
  ν 90 t = Int32.ofNat (L + 1) ∧ (∀ j, j ≠ t → ν 90 j = μ 90 j) ∧
  (ν 92 (24 * t + L) = k ∧ ν 93 (24 * t + L) = x ∧ ν 96 (24 * t + L) = μ 82 40 ∧ ν 97 (24 * t + L) = μ 82 41) ∧
  (∀ j, j ≠ 24 * t + L → ν 92 j = μ 92 j ∧ ν 93 j = μ 93 j ∧ ν 96 j = μ 96 j ∧ ν 97 j = μ 97 j)
theorem p_M_addStep {N : Nat} {μ : zS} {k x : Int32} {t L : Nat} (h39 : μ 82 39 = Int32.ofNat t) (ht : t < 4) (h90 : μ 90 t = Int32.ofNat L) (hL : L ≤ 24) (h9 : μ 82 9 = 0) : zp (zf_M_addStep N μ k x) (fun s => (L = 24 ∧ s.1 = 0 ∧ MFl s.2 (μ 82 5)) ∨ (L < 24 ∧ s.1 = Int32.ofNat L ∧ ADS t L k x μ s.2)) := by
  unfold zf_M_addStep
  rw [h39, zo_n (m := t) (by omega), h90, (z24 ht hL).2.1]
  refine zp_chk fun _ => zp_ite (fun d => ?_) fun d => ?_
  · have l : L < 24 := by
      have : L ≠ 24 := fun e => d (by rw [e]; rfl)
      omega
    refine zp_chk fun _ => zp_chk fun _ => zp_chk fun _ => zp_chk fun _ => zp_chk fun _ => zp_chk fun _ => zp_bind (zp_mono p_M_lead0 fun r9 g => ?_)
    have e39 : r9 82 39 = Int32.ofNat t := by
      rw [g.2 39 (by decide)]
      iterate 6 rw [zu_other (by decide)]
      exact h39
    have e90 : r9 90 = μ 90 := by
      rw [g.1 90 (by decide) (by decide) (by decide)]
      iterate 6 rw [zu_other (by decide)]
    have base : ADS t L k x μ (zx_up r9 90 t (Int32.ofNat (L + 1))) := by
      refine ⟨fun q a82 a90 a92 a93 a94 a95 a96 a97 a102 => ?_, fun i hi => ?_, ?_, fun j hj => ?_, ⟨?_, ?_, ?_, ?_⟩, fun j hj => ⟨?_, ?_, ?_, ?_⟩⟩
      · rw [zu_other a90, g.1 q a82 a94 a95, zu_other a97, zu_other a96, zu_other a95, zu_other a94, zu_other a93, zu_other a92]
      · rw [zu_other (by decide), g.2 i hi]
        iterate 6 rw [zu_other (by decide)]
      · rw [zx_up_same, zu_eq]
      · rw [zx_up_same, zu_ne hj, e90]
      · rw [zu_other (by decide), g.1 92 (by decide) (by decide) (by decide)]
        iterate 5 rw [zu_other (by decide)]
        rw [zx_up_same, zu_eq]
      · rw [zu_other (by decide), g.1 93 (by decide) (by decide) (by decide)]
        iterate 4 rw [zu_other (by decide)]
        rw [zx_up_same, zu_eq]
      · rw [zu_other (by decide), g.1 96 (by decide) (by decide) (by decide)]
        rw [zu_other (by decide), zx_up_same, zu_eq]
      · rw [zu_other (by decide), g.1 97 (by decide) (by decide) (by decide)]
        rw [zx_up_same, zu_eq]
      · rw [zu_other (by decide), g.1 92 (by decide) (by decide) (by decide)]
        iterate 5 rw [zu_other (by decide)]
        rw [zx_up_same, zu_ne hj]
      · rw [zu_other (by decide), g.1 93 (by decide) (by decide) (by decide)]
        iterate 4 rw [zu_other (by decide)]
        rw [zx_up_same, zu_ne hj, zu_other (by decide)]
      · rw [zu_other (by decide), g.1 96 (by decide) (by decide) (by decide)]
        rw [zu_other (by decide), zx_up_same, zu_ne hj]
        iterate 4 rw [zu_other (by decide)]
      · rw [zu_other (by decide), g.1 97 (by decide) (by decide) (by decide)]
        rw [zx_up_same, zu_ne hj]
        iterate 5 rw [zu_other (by decide)]
    rw [e39, zo_n (m := t) (by omega), e90, h90, zo_1 (by omega)]
    refine zp_chk fun _ => zp_chk fun _ => zp_ite (fun _ => zp_some (Or.inr ⟨l, rfl, base⟩)) fun _ => ?_
    unfold zf_M_wayOf
    refine zp_bind (zp_chk fun _ => zp_some (zp_some (Or.inr ⟨l, rfl, ?_⟩)))
    obtain ⟨b1, b2, b3, b4, b5, b6⟩ := base
    refine ⟨fun q a82 a90 a92 a93 a94 a95 a96 a97 a102 => ?_, fun i hi => ?_, ?_, fun j hj => ?_, ?_, fun j hj => ?_⟩ <;> dsimp only
    · rw [zu_other a82, zu_other a102]; exact b1 q a82 a90 a92 a93 a94 a95 a96 a97 a102
    · rw [zx_up_same, zu_ne hi, zu_other (by decide)]; exact b2 i hi
    · rw [zu_other (by decide), zu_other (by decide)]; exact b3
    · rw [zu_other (by decide), zu_other (by decide)]; exact b4 j hj
    · iterate 8 rw [zu_other (by decide)]
      exact b5
    · iterate 8 rw [zu_other (by decide)]
      exact b6 j hj
  · have d' : Int32.ofNat L = 24 := Classical.not_not.mp d
    refine zp_bind (zp_mono (p_M_fail h9) fun r hr => zp_some (Or.inl ⟨zo_inj (by omega) (by omega) d', rfl, hr⟩))
def sumL (len : Nat → Nat) : Nat → Nat
  | 0 => 0
  | n + 1 => sumL len n + len n
def lUp (len : Nat → Nat) (t L : Nat) : Nat → Nat := fun j => if j = t then L else len j
theorem lUp_at {len : Nat → Nat} {t L : Nat} : lUp len t L t = L := if_pos rfl
theorem lUp_ne {len : Nat → Nat} {t L j : Nat} (h : j ≠ t) : lUp len t L j = len j := if_neg h
theorem sumL_congr {len len' : Nat → Nat} : ∀ n, (∀ j, j < n → len' j = len j) → sumL len' n = sumL len n := by
  intro n
  induction n with
  | zero => intro _; rfl
  | succ n ih => intro h; rw [sumL, sumL, ih (fun j hj => h j (by omega)), h n (by omega)]
theorem sumL_up {len : Nat → Nat} {n : Nat} (hn : 0 < n) : sumL (lUp len (n - 1) (len (n - 1) + 1)) n = sumL len n + 1 := by
  obtain ⟨m, rfl⟩ : ∃ m, n = m + 1 := ⟨n - 1, by omega⟩
  rw [sumL, sumL, sumL_congr (len := len) m (fun j hj => lUp_ne (by omega)), show m + 1 - 1 = m from rfl, lUp_at]
  omega
theorem sumL_le {len : Nat → Nat} : ∀ n, (∀ j, j < n → len j ≤ 24) → sumL len n ≤ 24 * n := by
  intro n
  induction n with
  | zero => intro _; exact Nat.le_refl _
  | succ n ih => intro h; rw [sumL]; have := ih (fun j hj => h j (by omega)); have := h n (by omega); omega
def PKW (c : Nat → Nat) (len : Nat → Nat) (d : Nat) (ρ μ : zS) : Prop :=
  (∀ t, t < c 2 → len t ≤ 24 ∧ ρ 5 t = Int32.ofNat (len t) ∧ μ 90 t = Int32.ofNat (len t)) ∧ (∀ t, c 2 ≤ t → t < 4 → ρ 5 t = 0) ∧ ρ 4 4 = Int32.ofNat (sumL len (c 2)) ∧ (ρ 4 3 = μ 82 25 ∧ ρ 4 3 ≤ 6) ∧ (d ≤ 8 ∧ ρ 29 6 = Int32.ofNat d) ∧
  (0 < d → 0 < c 2 ∧ ρ 29 8 = Int32.ofNat (c 2 - 1) ∧ μ 82 39 = Int32.ofNat (c 2 - 1) ∧ ρ 29 12 = μ 82 41 ∧ μ 82 46 = Int32.ofNat d ∧ ∀ i, i < d → ρ 30 i = μ 103 i) ∧
  (∀ t s, t < c 2 → s < len t → ρ 7 (24 * t + s) = μ 92 (24 * t + s))
def SJ (c : Nat → Nat) (len : Nat → Nat) (μ : zS) (q : Nat) : Prop := (∃ t s, t < c 2 ∧ s < len t ∧ q = 24 * t + s) ∧ (μ 92 q = 10 ∨ μ 92 q = 11)
def LAT (c : Nat → Nat) (ws : Nat → Nat → Int64) (len : Nat → Nat) (ρ : zS) (τ : zT) (μ : zS) : Prop :=
  ∃ (nz : Nat) (wz : Nat → Int64) (SL : Nat → Nat), nz ≤ 128 ∧ μ 82 19 = Int32.ofNat nz ∧ (∀ l, l < nz → Nm μ (17 + l) (wz l) ∧ SJ c len μ (SL l) ∧ τ 23 (SL l) = wz l ∧ ρ 24 (SL l) = μ 87 l) ∧ (∀ l l', l < l' → l' < nz → SL l < SL l') ∧
  (∀ q, SJ c len μ q → (∃ k, k < c 2 ∧ μ 93 q = Int32.ofNat k ∧ ws 2 k = τ 23 q) ∨ (∃ l, l < nz ∧ μ 93 q = Int32.ofNat (4 + l) ∧ wz l = τ 23 q ∧ SL l ≤ q))
def CEx (t L : Nat) (k : Int32) (ρ r : zS) : Prop :=
  r 30 = ρ 30 ∧ (∀ i, i ≠ 4 → r 4 i = ρ 4 i) ∧ r 4 4 = ρ 4 4 + 1 ∧ r 5 t = Int32.ofNat (L + 1) ∧ (∀ j, j ≠ t → r 5 j = ρ 5 j) ∧ r 7 (24 * t + L) = k ∧ (∀ j, j ≠ 24 * t + L → r 7 j = ρ 7 j) ∧ (∀ i, i = 6 ∨ i = 8 ∨ i = 12 → r 29 i = ρ 29 i) ∧ (∀ j, j ≠ 24 * t + L → r 24 j = ρ 24 j)
def MEx (t L : Nat) (k : Int32) (μ ν : zS) : Prop :=
  (ν 87 = μ 87 ∧ ν 103 = μ 103) ∧ (∀ i, i = 17 ∨ i = 19 ∨ i = 25 ∨ i = 39 ∨ i = 41 ∨ i = 46 → ν 82 i = μ 82 i) ∧ ν 90 t = Int32.ofNat (L + 1) ∧ (∀ j, j ≠ t → ν 90 j = μ 90 j) ∧ ν 92 (24 * t + L) = k ∧ (∀ j, j ≠ 24 * t + L → ν 92 j = μ 92 j ∧ ν 93 j = μ 93 j) ∧ (∀ p, 17 ≤ p → ν 86 p = μ 86 p) ∧ (∀ j, 102 ≤ j → ν 85 j = μ 85 j)
theorem CEx.of {t L : Nat} {k x : Int32} {ρ ρ1 r : zS} (f : RXF ρ ρ1) (e : EM t L k x ρ1 r) : CEx t L k ρ r := by
  obtain ⟨e1, e2, e3, e4, e5, e6, e7, e8, e9⟩ := e
  have g : ∀ q, q ≠ 17 → q ≠ 18 → q ≠ 25 → ρ1 q = ρ q := f.1
  refine ⟨?_, fun i hi => ?_, ?_, e4, fun j hj => ?_, e6.1, fun j hj => ?_, fun i hi => ?_, fun j hj => ?_⟩
  · rw [e1 30 (by decide) (by decide) (by decide) (by decide) (by decide) (by decide) (by decide) (by decide) (by decide), g 30 (by decide) (by decide) (by decide)]
  · rw [e2 i hi, g 4 (by decide) (by decide) (by decide)]
  · rw [e3, g 4 (by decide) (by decide) (by decide)]
  · rw [e5 j hj, g 5 (by decide) (by decide) (by decide)]
  · rw [(e7 j hj).1, g 7 (by decide) (by decide) (by decide)]
  · rw [e9 i (by omega) (by omega) (by omega), g 29 (by decide) (by decide) (by decide)]
  · rw [e1 24 (by decide) (by decide) (by decide) (by decide) (by decide) (by decide) (by decide) (by decide) (by decide), g 24 (by decide) (by decide) (by decide)]
theorem CEx.post {t L : Nat} {k : Int32} {ρ r r' : zS} (h : CEx t L k ρ r) (f : ∀ q, q = 4 ∨ q = 5 ∨ q = 7 ∨ q = 24 ∨ q = 29 ∨ q = 30 → r' q = r q) : CEx t L k ρ r' := by
  unfold CEx at *
  rw [f 4 (by decide), f 5 (by decide), f 7 (by decide), f 24 (by decide), f 29 (by decide), f 30 (by decide)]
  exact h
theorem MEx.of {t L : Nat} {k x : Int32} {μ ν : zS} (e : ADS t L k x μ ν) : MEx t L k μ ν := by
  obtain ⟨e1, e2, e3, e4, e5, e6⟩ := e
  have g : ∀ q, q = 87 ∨ q = 103 ∨ q = 86 ∨ q = 85 → ν q = μ q := fun q hq => e1 q (by omega) (by omega) (by omega) (by omega) (by omega) (by omega) (by omega) (by omega) (by omega)
  exact ⟨⟨g 87 (by decide), g 103 (by decide)⟩, fun i hi => e2 i (by omega), e3, e4, e5.1, fun j hj => ⟨(e6 j hj).1, (e6 j hj).2.1⟩, fun p _ => by rw [g 86 (by decide)], fun p _ => by rw [g 85 (by decide)]⟩
theorem MEx.rd {t L : Nat} {k : Int32} {μ ν ν' : zS} (h : MEx t L k μ ν) (f : RMF ν ν') : MEx t L k μ ν' := by
  obtain ⟨h1, h2, h3, h4, h5, h6, h7, h8⟩ := h
  have g : ∀ q, q = 87 ∨ q = 103 ∨ q = 90 ∨ q = 92 ∨ q = 93 → ν' q = ν q := fun q hq => f.1 q (by omega) (by omega) (by omega)
  refine ⟨⟨(g 87 (by decide)).trans h1.1, (g 103 (by decide)).trans h1.2⟩, fun i hi => (f.2.1 i (by omega) (by omega) (by omega) (by omega) (by omega) (by omega) (by omega) (by omega)).trans (h2 i hi), by rw [g 90 (by decide)]; exact h3, fun j hj => by rw [g 90 (by decide)]; exact h4 j hj, by rw [g 92 (by decide)]; exact h5, fun j hj => by rw [g 92 (by decide), g 93 (by decide)]; exact h6 j hj, fun p hp => (f.2.2.1 p (by omega)).trans (h7 p hp), fun p hp => (f.2.2.2 p (by omega)).trans (h8 p hp)⟩
theorem MEx.up {t L i : Nat} {k x : Int32} {μ ν : zS} {q : Nat} (h : MEx t L k μ ν) (hq : 98 ≤ q ∧ q ≤ 101) : MEx t L k μ (zx_up ν q i x) := by
  unfold MEx at *
  rw [zu_other (q := q) (p := 87) (by omega), zu_other (q := q) (p := 103) (by omega), zu_other (q := q) (p := 82) (by omega), zu_other (q := q) (p := 90) (by omega), zu_other (q := q) (p := 92) (by omega), zu_other (q := q) (p := 93) (by omega), zu_other (q := q) (p := 86) (by omega), zu_other (q := q) (p := 85) (by omega)]
  exact h
theorem MEx.up93 {t L : Nat} {k x : Int32} {μ ν : zS} (h : MEx t L k μ ν) : MEx t L k μ (zx_up ν 93 (24 * t + L) x) := by
  obtain ⟨h1, h2, h3, h4, h5, h6, h7, h8⟩ := h
  unfold MEx
  rw [zu_other (q := 93) (p := 87) (by decide), zu_other (q := 93) (p := 103) (by decide), zu_other (q := 93) (p := 82) (by decide), zu_other (q := 93) (p := 90) (by decide), zu_other (q := 93) (p := 92) (by decide), zu_other (q := 93) (p := 86) (by decide), zu_other (q := 93) (p := 85) (by decide), zx_up_same]
  exact ⟨h1, h2, h3, h4, h5, fun j hj => ⟨(h6 j hj).1, by rw [zu_ne hj]; exact (h6 j hj).2⟩, h7, h8⟩
theorem MEx.up92 {t L : Nat} {k x : Int32} {μ ν : zS} (h : MEx t L k μ ν) : MEx t L x μ (zx_up ν 92 (24 * t + L) x) := by
  obtain ⟨h1, h2, h3, h4, h5, h6, h7, h8⟩ := h
  unfold MEx
  rw [zu_other (q := 92) (p := 87) (by decide), zu_other (q := 92) (p := 103) (by decide), zu_other (q := 92) (p := 82) (by decide), zu_other (q := 92) (p := 90) (by decide), zu_other (q := 92) (p := 93) (by decide), zu_other (q := 92) (p := 86) (by decide), zu_other (q := 92) (p := 85) (by decide), zx_up_same]
  exact ⟨h1, h2, h3, h4, zu_eq, fun j hj => ⟨by rw [zu_ne hj]; exact (h6 j hj).1, (h6 j hj).2⟩, h7, h8⟩
theorem PKW.step {c len : Nat → Nat} {d t L : Nat} {k : Int32} {ρ μ r ν : zS} (h : PKW c len d ρ μ) (hd : 0 < d) (ht : t = c 2 - 1) (hL : L = len t) (hl : L < 24) (h4 : c 2 ≤ 4) (x : CEx t L k ρ r) (m : MEx t L k μ ν) : PKW c (lUp len t (L + 1)) d r ν := by
  obtain ⟨p1, p2, p3, p4, p5, p6, p7⟩ := h
  obtain ⟨x1, x2, x3, x4, x5, x6, x7, x8, x9⟩ := x
  obtain ⟨m1, m2, m3, m4, m5, m6, m7, m8⟩ := m
  obtain ⟨q1, q2, q3, q4, q5, q6⟩ := p6 hd
  subst ht hL
  have sl := sumL_le (len := len) (c 2) (fun j hj => (p1 j hj).1)
  refine ⟨fun t ht => ?_, fun t a b => ?_, ?_, ?_, ⟨p5.1, by rw [x8 6 (by decide)]; exact p5.2⟩, fun _ => ⟨q1, by rw [x8 8 (by decide)]; exact q2, by rw [m2 39 (by decide)]; exact q3, by rw [x8 12 (by decide), m2 41 (by decide)]; exact q4, by rw [m2 46 (by decide)]; exact q5, fun i hi => by rw [x1, m1.2]; exact q6 i hi⟩, fun t s ht hs => ?_⟩
  · by_cases e : t = c 2 - 1
    · rw [e, lUp_at]; exact ⟨by omega, x4, m3⟩
    · rw [lUp_ne e, x5 t e, m4 t e]; exact p1 t ht
  · rw [x5 t (by omega)]; exact p2 t a b
  · rw [x3, p3, sumL_up q1, zo_1 (by omega)]
  · rw [x2 3 (by decide), m2 25 (by decide)]; exact p4
  · by_cases e : t = c 2 - 1
    · rw [e] at hs ⊢
      rw [lUp_at] at hs
      by_cases e2 : s = len (c 2 - 1)
      · rw [e2, x6, m5]
      · rw [x7 _ (by omega), (m6 _ (by omega)).1]; exact p7 _ _ (by omega) (by omega)
    · rw [lUp_ne e] at hs
      have := (p1 t ht).1
      rw [x7 _ (by omega), (m6 _ (by omega)).1]; exact p7 _ _ ht hs
theorem PKW.rd {c len : Nat → Nat} {d : Nat} {ρ μ r ν : zS} (h : PKW c len d ρ μ) (x : RXF ρ r) (m : RMF μ ν) : PKW c len d r ν := by
  have g : ∀ q, q = 4 ∨ q = 5 ∨ q = 7 ∨ q = 29 ∨ q = 30 → r q = ρ q := fun q hq => x.1 q (by omega) (by omega) (by omega)
  have gm : ∀ q, q = 90 ∨ q = 92 ∨ q = 103 → ν q = μ q := fun q hq => m.1 q (by omega) (by omega) (by omega)
  have g2 : ∀ i, i = 25 ∨ i = 39 ∨ i = 41 ∨ i = 46 → ν 82 i = μ 82 i := fun i hi => m.2.1 i (by omega) (by omega) (by omega) (by omega) (by omega) (by omega) (by omega) (by omega)
  unfold PKW at *
  rw [g 4 (by decide), g 5 (by decide), g 7 (by decide), g 29 (by decide), g 30 (by decide), gm 90 (by decide), gm 92 (by decide), gm 103 (by decide), g2 25 (by decide), g2 39 (by decide), g2 41 (by decide), g2 46 (by decide)]
  exact h
theorem SJ.of {c len : Nat → Nat} {μ ν : zS} {q : Nat} (h : SJ c len μ q) (e : ν 92 q = μ 92 q) : SJ c len ν q := by
  unfold SJ at *
  rw [e]
  exact h
theorem LAT.of {c : Nat → Nat} {ws : Nat → Nat → Int64} {len : Nat → Nat} {ρ r μ ν : zS} {τ υ : zT} (h : LAT c ws len ρ τ μ) (e24 : r 24 = ρ 24) (e23 : υ 23 = τ 23) (e19 : ν 82 19 = μ 82 19) (e87 : ν 87 = μ 87) (e92 : ν 92 = μ 92) (e93 : ν 93 = μ 93) (e86 : ∀ p, 17 ≤ p → ν 86 p = μ 86 p) (e85 : ∀ j, 102 ≤ j → ν 85 j = μ 85 j) : LAT c ws len r υ ν := by
  obtain ⟨nz, wz, SL, h1, h2, h3, h4, h5⟩ := h
  refine ⟨nz, wz, SL, h1, e19.trans h2, fun l hl => ?_, h4, fun q hq => ?_⟩
  · obtain ⟨a, b, x, y⟩ := h3 l hl
    exact ⟨a.of (fun i hi => e85 _ (by omega)) (e86 _ (by omega)), b.of (by rw [e92]), by rw [e23]; exact x, by rw [e24, e87]; exact y⟩
  · rw [e93, e23]
    exact h5 q (hq.of (by rw [e92]))
theorem LAT.rd {c : Nat → Nat} {ws : Nat → Nat → Int64} {len : Nat → Nat} {ρ r μ ν : zS} {τ υ : zT} (h : LAT c ws len ρ τ μ) (x : RXF ρ r) (y : RTF τ υ) (m : RMF μ ν) : LAT c ws len r υ ν :=
  h.of (x.1 24 (by decide) (by decide) (by decide)) (y 23 (by decide) (by decide)) (m.2.1 19 (by decide) (by decide) (by decide) (by decide) (by decide) (by decide) (by decide) (by decide)) (m.1 87 (by decide) (by decide) (by decide)) (m.1 92 (by decide) (by decide) (by decide)) (m.1 93 (by decide) (by decide) (by decide)) (fun p hp => m.2.2.1 p (by omega)) (fun p hp => m.2.2.2 p (by omega))
theorem LAT.step {c : Nat → Nat} {ws : Nat → Nat → Int64} {len : Nat → Nat} {d t L : Nat} {k : Int32} {ρ r μ ν : zS} {τ υ : zT} (h : LAT c ws len ρ τ μ) (pk : PKW c len d ρ μ) (ht : t = c 2 - 1) (hL : L = len t) (x : CEx t L k ρ r) (m : MEx t L k μ ν) (y : υ 23 = τ 23) (hk : ¬ k = 10 ∧ ¬ k = 11) : LAT c ws (lUp len t (L + 1)) r υ ν := by
  obtain ⟨nz, wz, SL, h1, h2, h3, h4, h5⟩ := h
  have A : ∀ q, SJ c len μ q → q ≠ 24 * t + L := by
    rintro q ⟨⟨t', s, a1, a2, rfl⟩, _⟩ e
    have := (pk.1 t' a1).1
    by_cases q2 : t' = t
    · rw [q2] at a2 e; omega
    · omega
  have B : ∀ q, SJ c len μ q → SJ c (lUp len t (L + 1)) ν q := by
    intro q hq
    have ne := A q hq
    obtain ⟨⟨t', s, a1, a2, e⟩, b⟩ := hq
    refine ⟨⟨t', s, a1, ?_, e⟩, by rw [(m.2.2.2.2.2.1 q ne).1]; exact b⟩
    by_cases q2 : t' = t
    · rw [q2, lUp_at]; rw [q2] at a2; omega
    · rw [lUp_ne q2]; exact a2
  have C : ∀ q, SJ c (lUp len t (L + 1)) ν q → SJ c len μ q := by
    intro q hq
    obtain ⟨⟨t', s, a1, a2, e⟩, b⟩ := hq
    have ne : q ≠ 24 * t + L := by
      intro e2
      rw [e2, m.2.2.2.2.1] at b
      exact b.elim hk.1 hk.2
    refine ⟨⟨t', s, a1, ?_, e⟩, by rw [← (m.2.2.2.2.2.1 q ne).1]; exact b⟩
    by_cases q2 : t' = t
    · rw [q2, lUp_at] at a2
      rw [q2] at e ⊢
      omega
    · rw [lUp_ne q2] at a2; exact a2
  refine ⟨nz, wz, SL, h1, (m.2.1 19 (by decide)).trans h2, fun l hl => ?_, h4, fun q hq => ?_⟩
  · obtain ⟨a, b, u, v⟩ := h3 l hl
    refine ⟨a.of (fun i hi => m.2.2.2.2.2.2.2 _ (by omega)) (m.2.2.2.2.2.2.1 _ (by omega)), B _ b, by rw [y]; exact u, ?_⟩
    rw [x.2.2.2.2.2.2.2.2 _ (A _ b), m.1.1]; exact v
  · have q' := C q hq
    rw [(m.2.2.2.2.2.1 q (A q q')).2, y]
    exact h5 q q'
theorem p_F_nextIfWell {N : Nat} {μ : zS} {p : Int32} (h : MFl μ p) : zp (zf_M_nextIfWell N μ) (fun s => MFl s p) := by
  unfold zf_M_nextIfWell
  exact zp_ite (fun _ => zp_some h) fun q => absurd (Classical.not_not.mp q) h.1
theorem p_F_lockNamed {N : Nat} {μ : zS} {p : Int32} (h : MFl μ p) : zp (zf_M_lockNamed N μ) (fun s => MFl s.2 p) := by
  unfold zf_M_lockNamed
  exact zp_ite (fun q => absurd q h.1) fun _ => zp_some h
theorem p_F_threadNamed {N : Nat} {μ : zS} {p : Int32} (h : MFl μ p) : zp (zf_M_threadNamed N μ) (fun s => MFl s.2 p) := by
  unfold zf_M_threadNamed
  exact zp_ite (fun q => absurd q h.1) fun _ => zp_some h
theorem p_F_value {N : Nat} {μ : zS} {p x : Int32} (h : MFl μ p) : zp (zf_M_value N μ x) (fun s => MFl s.2 p) := by
  unfold zf_M_value
  exact zp_ite (fun q => absurd q h.1) fun _ => zp_some h
theorem p_F_test {N : Nat} {μ : zS} {p x : Int32} (h : MFl μ p) : zp (zf_M_test N μ x) (fun s => MFl s p) := by
  unfold zf_M_test
  exact zp_ite (fun q => absurd q h.1) fun _ => zp_some h
theorem p_F_take {N : Nat} {μ : zS} {p x : Int32} (h : MFl μ p) : zp (zf_M_take N μ x) (fun s => MFl s p) := by
  unfold zf_M_take
  exact zp_ite (fun q => absurd q h.1) fun _ => zp_some h
theorem p_F_openBlock {N : Nat} {μ : zS} {p x y : Int32} (h : MFl μ p) : zp (zf_M_openBlock N μ x y) (fun s => MFl s p) := by
  unfold zf_M_openBlock
  exact zp_ite (fun q => absurd q h.1) fun _ => zp_some h
theorem MFl.up {μ : zS} {q i : Nat} {p x : Int32} (h : MFl μ p) (hq : q ≠ 82) : MFl (zx_up μ q i x) p := h.of (zu_other (Ne.symm hq))
def RLX (T : TS) (a : Nat) (c : Nat → Nat) (ws : Nat → Nat → Int64) (nv : Nat) (wv : Nat → Int64) (len : Nat → Nat) (d : Nat) (ρ : zS) (τ : zT) (μ : zS) : Prop :=
  SX T a ρ τ ∧ SM T a μ ∧ NNX c ws nv wv ρ τ ∧ NSM c ws nv wv μ ∧ PKW c len d ρ μ ∧ LAT c ws len ρ τ μ
def OUT (T : TS) (a : Nat) (c : Nat → Nat) (ws : Nat → Nat → Int64) (ρ : zS) (τ : zT) (μ : zS) : Prop :=
  (∃ p, XFl ρ p ∧ MFl μ p) ∨ (∃ a' nv wv len d, a < a' ∧ (d = 0 → μ 82 46 = 0) ∧ RLX T a' c ws nv wv len d ρ τ μ)
theorem NSX.c2 {c : Nat → Nat} {ws : Nat → Nat → Int64} {nv : Nat} {wv : Nat → Int64} {ρ : zS} {τ : zT} (h : NSX c ws nv wv ρ τ) : c 2 ≤ 4 := (h.1 2 (by decide)).1
theorem p_X_room {T : TS} {a t L : Nat} {ρ : zS} {τ : zT} (sx : SX T a ρ τ) (h8 : ρ 29 8 = Int32.ofNat t) (ht : t < 4) (h5 : ρ 5 t = Int32.ofNat L) (hL : L ≤ 24) : zp (zf_Weaver_hasRoom ρ) (fun r => (L = 24 ∧ r = 0) ∨ (L < 24 ∧ r = 1)) ∧ zp (zf_Reader_hasRoomForStep ρ) (fun r => (L = 24 ∧ r.1 = 0 ∧ XFl r.2 (T.2.1 a)) ∨ (L < 24 ∧ r = (1, ρ))) := by
  have A : zp (zf_Weaver_hasRoom ρ) (fun r => (L = 24 ∧ r = 0) ∨ (L < 24 ∧ r = 1)) := by
    unfold zf_Weaver_hasRoom
    rw [h8]
    refine zp_bind (zp_mono (p_X_lengthOf ht) fun r e => ?_)
    rw [e, h5]
    refine zp_ite (fun q => zp_some (Or.inl ⟨?_, rfl⟩)) fun q => zp_some (Or.inr ⟨?_, rfl⟩)
    · have := (zo_le (k := 24) (j := L) (by omega) (by omega)).mp q
      omega
    · have : ¬ 24 ≤ L := fun x => q ((zo_le (k := 24) (j := L) (by omega) (by omega)).mpr x)
      omega
  refine ⟨A, ?_⟩
  unfold zf_Reader_hasRoomForStep zb_Reader_hasRoomForStep_18
  refine zp_bind (zp_mono A fun r hr => zp_ite (fun q => zp_some (Or.inr ⟨?_, rfl⟩)) fun q => zp_bind (zp_mono (p_X_fail (by decide)) fun r3 h3 => zp_ite (fun _ => zp_some (Or.inl ⟨?_, rfl, by rw [← sx.p]; exact h3.2⟩)) fun q2 => absurd h3.1 q2))
  · rcases hr with hr | hr
    · exact absurd hr.2 q
    · exact hr.1
  · rcases hr with hr | hr
    · exact hr.1
    · rw [hr.2] at q; exact absurd (by decide) q
theorem p_M_begin {T : TS} {a N t L : Nat} {c : Nat → Nat} {ws : Nat → Nat → Int64} {nv : Nat} {wv : Nat → Int64} {μ : zS} {k x : Int32} {F : Int32 × zS → zS → Option zS} {Q : zS → Prop} (sm : SM T a μ) (nm : NSM c ws nv wv μ) (hk : ¬ T.1 a = 0 ∧ ¬ T.1 a = 1) (h39 : μ 82 39 = Int32.ofNat t) (ht : t < 4) (h90 : μ 90 t = Int32.ofNat L) (hL : L ≤ 24) (bad : L = 24 → ∀ r r', MFl r' (T.2.1 a) → zp (F r r') Q) (good : L < 24 → ∀ r r', r.1 = Int32.ofNat L → ADS t L k x μ r.2 → NX0 r.2 r' → SM T (a + 1) r' → NSM c ws nv wv r' → zp (F r r') Q) : zp ((zf_M_addStep N μ k x).bind fun r => (zf_M_nextIfWell N r.2).bind fun r' => F r r') Q := by
  refine zp_bind (zp_mono (p_M_addStep h39 ht h90 hL sm.2.2.2) fun r hr => ?_)
  rcases hr with ⟨l, e, fl⟩ | ⟨l, e, as⟩
  · rw [sm.p] at fl
    exact zp_bind (zp_mono (p_F_nextIfWell fl) fun r' h' => bad l r r' h')
  · have g : ∀ q, q = 84 ∨ q = 85 ∨ q = 86 → r.2 q = μ q := fun q hq => as.1 q (by omega) (by omega) (by omega) (by omega) (by omega) (by omega) (by omega) (by omega) (by omega)
    have sm1 : SM T a r.2 := sm.of (g 84 (by decide)) fun i hi => as.2.1 i (by omega)
    have nm1 : NSM c ws nv wv r.2 := nm.of (fun i hi => as.2.1 i (by omega)) (fun p _ => by rw [g 86 (by decide)]) (fun p _ => by rw [g 85 (by decide)])
    refine zp_bind ?_
    unfold zf_M_nextIfWell
    refine zp_ite (fun q => absurd sm1.2.2.2 q) fun _ => zp_bind (zp_mono (M.tk sm1 nm1 hk) ?_)
    rintro ν ⟨n1, n2, n3, n4⟩
    exact zp_some (good l r ν e as n3 n1 n2)
def ENT (s m : Int32) (d : Nat) (ρ r : zS) : Prop :=
  (∀ q, q ≠ 4 → q ≠ 29 → q ≠ 30 → q ≠ 31 → q ≠ 32 → q ≠ 33 → q ≠ 34 → r q = ρ q) ∧ (r 30 d = s ∧ r 31 d = m ∧ r 32 d = 0 ∧ r 33 d = 0 ∧ r 34 d = ρ 29 11) ∧ (∀ j, j ≠ d → r 30 j = ρ 30 j ∧ r 31 j = ρ 31 j ∧ r 32 j = ρ 32 j ∧ r 33 j = ρ 33 j ∧ r 34 j = ρ 34 j) ∧ r 29 6 = Int32.ofNat (d + 1) ∧ (∀ i, i ≠ 6 → i ≠ 11 → i ≠ 12 → r 29 i = ρ 29 i) ∧ (∀ i, i ≠ 3 → r 4 i = ρ 4 i) ∧
  ((s = 2 ∧ r 29 12 = ρ 4 3 ∧ r 4 3 = ρ 4 3 + 1 ∧ r 29 11 = ρ 29 11) ∨ (s ≠ 2 ∧ r 29 12 = ρ 29 12 ∧ r 4 3 = ρ 4 3 ∧ ((s = 1 ∧ r 29 11 = ρ 29 11 ||| zJ_shl 1 m) ∨ (s ≠ 1 ∧ r 29 11 = ρ 29 11))))
def OBM (s st : Int32) (d : Nat) (μ ν : zS) : Prop :=
  (∀ q, q ≠ 82 → q ≠ 103 → q ≠ 104 → q ≠ 106 → ν q = μ q) ∧ (∀ i, i ≠ 5 → i ≠ 6 → i ≠ 7 → i ≠ 8 → i ≠ 46 → ν 82 i = μ 82 i) ∧ ν 82 46 = Int32.ofNat (d + 1) ∧ (ν 103 d = s ∧ ν 104 d = st ∧ ν 106 d = μ 82 40) ∧ (∀ j, j ≠ d → ν 103 j = μ 103 j ∧ ν 104 j = μ 104 j ∧ ν 106 j = μ 106 j)
theorem p_X_enter {ρ : zS} {s m : Int32} {d : Nat} (h6 : ρ 29 6 = Int32.ofNat d) (hd : d < 8) : zp (zf_Weaver_enter ρ s m) (fun r => ENT s m d ρ r) := by
  unfold zf_Weaver_enter
  rw [h6, zo_n (by omega), zo_1 (by omega)]
  refine zp_ite (fun q => ?_) fun _ => zp_ite (fun _ => zp_chk fun _ => zp_chk fun _ => zp_chk fun _ => zp_chk fun _ => zp_chk fun _ => zp_ite (fun s1 => zp_ite (fun s2 => zp_some ?_) fun s2 => zp_some ?_) fun s1 => zp_some ?_) fun q => ?_
  · have := (zo_lt (k := d) (j := 0) (by omega) (by omega)).mp q
    omega
  · refine ⟨fun q a4 a29 a30 a31 a32 a33 a34 => ?_, ⟨?_, ?_, ?_, ?_, ?_⟩, fun j hj => ⟨?_, ?_, ?_, ?_, ?_⟩, ?_, fun i b6 b11 b12 => ?_, fun i hi => ?_, Or.inr ⟨s2, ?_, ?_, Or.inr ⟨s1, ?_⟩⟩⟩
    · rw [zu_other a29, zu_other a34, zu_other a33, zu_other a32, zu_other a31, zu_other a30]
    all_goals simp [zx_up_same, zu_other, zu_eq, zu_ne, *]
  · refine ⟨fun q a4 a29 a30 a31 a32 a33 a34 => ?_, ⟨?_, ?_, ?_, ?_, ?_⟩, fun j hj => ⟨?_, ?_, ?_, ?_, ?_⟩, ?_, fun i b6 b11 b12 => ?_, fun i hi => ?_, Or.inl ⟨Classical.not_not.mp s2, ?_, ?_, ?_⟩⟩
    · rw [zu_other a4, zu_other a29, zu_other a29, zu_other a34, zu_other a33, zu_other a32, zu_other a31, zu_other a30]
    all_goals simp [zx_up_same, zu_other, zu_eq, zu_ne, *]
  · have e1 := Classical.not_not.mp s1
    refine ⟨fun q a4 a29 a30 a31 a32 a33 a34 => ?_, ⟨?_, ?_, ?_, ?_, ?_⟩, fun j hj => ⟨?_, ?_, ?_, ?_, ?_⟩, ?_, fun i b6 b11 b12 => ?_, fun i hi => ?_, Or.inr ⟨by rw [e1]; decide, ?_, ?_, Or.inl ⟨e1, ?_⟩⟩⟩
    · rw [zu_other a29, zu_other a29, zu_other a34, zu_other a33, zu_other a32, zu_other a31, zu_other a30]
    all_goals simp [zx_up_same, zu_other, zu_eq, zu_ne, *]
  · exact absurd ((zo_lt (k := d) (j := 8) (by omega) (by omega)).mpr hd) q
theorem p_open {T : TS} {a d : Nat} {c : Nat → Nat} {ws : Nat → Nat → Int64} {nv : Nat} {wv : Nat → Int64} {ρ : zS} {τ : zT} {b : Nat → Int32} {n s m : Int32} (tb : TB b n T.1 T.2.1 T.2.2.1 T.2.2.2.1 T.2.2.2.2) (h : SX T a ρ τ) (ns : NNX c ws nv wv ρ τ) (h6 : ρ 29 6 = Int32.ofNat d) (hd : d ≤ 8) : zp (zf_Reader_openBlock ρ τ s m) (fun r => (XFl r.1 (T.2.1 a) ∧ ∀ N μ st, SM T a μ → μ 82 46 = Int32.ofNat d → zp (zf_M_openBlock N μ s st) (fun s => MFl s (T.2.1 a))) ∨ (d < 8 ∧ SX T (a + 1) r.1 r.2 ∧ NNX c ws nv wv r.1 r.2 ∧ (∃ ρ1, XA0 ρ ρ1 ∧ ENT s m d ρ1 r.1) ∧ (∀ q, q ≠ 25 → r.2 q = τ q) ∧ ∀ N μ st, SM T a μ → μ 82 46 = Int32.ofNat d → zp (zf_M_openBlock N μ s st) (fun ν => SM T (a + 1) ν ∧ OBM s st d μ ν))) := by
  have A : (T.1 a = 123 → d < 8) → zp (zb_Reader_openBlock_33 ρ τ s m) (fun r => (XFl r.1 (T.2.1 a) ∧ ∀ N μ st, SM T a μ → μ 82 46 = Int32.ofNat d → zp (zf_M_openBlock N μ s st) (fun s => MFl s (T.2.1 a))) ∨ (d < 8 ∧ SX T (a + 1) r.1 r.2 ∧ NNX c ws nv wv r.1 r.2 ∧ (∃ ρ1, XA0 ρ ρ1 ∧ ENT s m d ρ1 r.1) ∧ (∀ q, q ≠ 25 → r.2 q = τ q) ∧ ∀ N μ st, SM T a μ → μ 82 46 = Int32.ofNat d → zp (zf_M_openBlock N μ s st) (fun ν => SM T (a + 1) ν ∧ OBM s st d μ ν))) := by
    intro hlt
    unfold zb_Reader_openBlock_33
    refine zp_bind (zp_mono (p_take tb h ns (x := 123) (by decide)) fun r hr => ?_)
    rcases hr with ⟨e0, nk, fl, m1⟩ | ⟨e1, ek, sx, nx, xa, g, m1⟩
    · refine zp_ite (fun _ => zp_some (Or.inl ⟨fl, fun N μ st sm hm => ?_⟩)) fun q => absurd e0 q
      unfold zf_M_openBlock
      refine zp_ite (fun _ => zp_bind (zp_mono (p_M_isSign sm.d (c := 123) (by decide)) fun u hu => zp_ite (fun z => ?_) fun z => zp_bind (zp_mono (p_M_cannot sm.2.2.2) fun s hs => zp_some (by rw [← sm.p]; exact hs)))) fun q => absurd sm.2.2.2 q
      exfalso
      rcases hu with hu | hu
      · exact z hu.1
      · exact nk hu.2
    · refine zp_ite (fun q => absurd (q.symm.trans e1) (by decide)) fun _ => zp_bind (zp_mono (p_X_enter (d := d) (by rw [xa.1 29 (by decide)]; exact h6) (hlt ek)) fun r' en => zp_some (Or.inr ⟨hlt ek, ?_, ?_, ⟨_, xa, en⟩, g, fun N μ st sm hm => ?_⟩))
      · have z : ∀ q, q = 17 ∨ q = 25 ∨ q = 26 ∨ q = 27 → r' q = r.2.1 q := fun q hq => en.1 q (by omega) (by omega) (by omega) (by omega) (by omega) (by omega) (by omega)
        exact sx.of (z 17 (by decide)) (z 25 (by decide)) (z 26 (by decide)) (z 27 (by decide)) rfl rfl
      · have z : ∀ q, q = 18 ∨ q = 20 ∨ q = 21 → r' q = r.2.1 q := fun q hq => en.1 q (by omega) (by omega) (by omega) (by omega) (by omega) (by omega) (by omega)
        exact nx.of (fun s hs => en.2.2.2.2.2.1 s (by omega)) (z 18 (by decide)) (z 20 (by decide)) (z 21 (by decide)) rfl rfl
      · unfold zf_M_openBlock
        have d8 : ¬ μ 82 46 = 8 := by
          rw [hm]
          intro q
          have := zo_inj (k := d) (j := 8) (by omega) (by omega) q
          have := hlt ek
          omega
        refine zp_ite (fun _ => zp_bind (zp_mono (p_M_isSign sm.d (c := 123) (by decide)) fun u hu => zp_ite (fun z => zp_ite (fun _ => zp_bind (zp_mono (sm.nx (by rw [ek]; decide)) ?_)) fun q => absurd d8 q) fun z => ?_)) fun q => absurd sm.2.2.2 q
        · rintro ν ⟨sm', f⟩
          have e46 : ν 82 46 = Int32.ofNat d := by rw [f.2 46 (by decide) (by decide) (by decide) (by decide)]; exact hm
          have e40 : ν 82 40 = μ 82 40 := f.2 40 (by decide) (by decide) (by decide) (by decide)
          rw [e46, zo_n (by omega), zo_1 (by omega), e40]
          refine zp_chk fun _ => zp_chk fun _ => zp_chk fun _ => zp_some ⟨sm'.of ?_ fun i hi => ?_, fun q a1 a2 a3 a4 => ?_, fun i b5 b6 b7 b8 b46 => ?_, ?_, ⟨?_, ?_, ?_⟩, fun j hj => ⟨?_, ?_, ?_⟩⟩
          · iterate 4 rw [zu_other (by decide)]
          · rw [zx_up_same, zu_ne (by omega)]
            iterate 3 rw [zu_other (by decide)]
          · rw [zu_other a1, zu_other a4, zu_other a3, zu_other a2]; exact f.1 q a1
          · rw [zx_up_same, zu_ne b46]
            iterate 3 rw [zu_other (by decide)]
            exact f.2 i b5 b6 b7 b8
          · rw [zx_up_same, zu_eq]
          · iterate 3 rw [zu_other (by decide)]
            rw [zx_up_same, zu_eq]
          · iterate 2 rw [zu_other (by decide)]
            rw [zx_up_same, zu_eq]
          · rw [zu_other (by decide), zx_up_same, zu_eq]
          · iterate 3 rw [zu_other (by decide)]
            rw [zx_up_same, zu_ne hj, f.1 103 (by decide)]
          · iterate 2 rw [zu_other (by decide)]
            rw [zx_up_same, zu_ne hj, zu_other (by decide), f.1 104 (by decide)]
          · rw [zu_other (by decide), zx_up_same, zu_ne hj, zu_other (by decide), zu_other (by decide), f.1 106 (by decide)]
        · exfalso
          rcases hu with hu | hu
          · exact hu.2 ek
          · exact z (by rw [hu.1]; decide)
  unfold zf_Reader_openBlock
  rw [h.k, h6]
  refine zp_ite (fun q => A fun e => absurd e q) fun q => zp_ite (fun z => A fun _ => (zo_lt (k := d) (j := 8) (by omega) (by omega)).mp z) fun z => ?_
  have d8 : d = 8 := by
    have : ¬ d < 8 := fun x => z ((zo_lt (k := d) (j := 8) (by omega) (by omega)).mpr x)
    omega
  refine zp_bind (zp_mono (p_X_fail (by decide)) fun r hr => zp_some (Or.inl ⟨by rw [← h.p]; exact hr.2, fun N μ st sm hm => ?_⟩))
  unfold zf_M_openBlock
  refine zp_ite (fun _ => zp_bind (zp_mono (p_M_isSign sm.d (c := 123) (by decide)) fun u hu => zp_ite (fun z => zp_ite (fun y => ?_) fun _ => zp_bind (zp_mono (p_M_fail sm.2.2.2) fun s hs => zp_some (by rw [← sm.p]; exact hs))) fun z => zp_bind (zp_mono (p_M_cannot sm.2.2.2) fun s hs => zp_some (by rw [← sm.p]; exact hs)))) fun q => absurd sm.2.2.2 q
  exact absurd (by rw [hm, d8]; rfl) y
theorem RLX.th {T : TS} {a : Nat} {c : Nat → Nat} {ws : Nat → Nat → Int64} {nv : Nat} {wv : Nat → Int64} {len : Nat → Nat} {d : Nat} {ρ : zS} {τ : zT} {μ : zS} (h : RLX T a c ws nv wv len d ρ τ μ) (hd : 0 < d) : c 2 - 1 < 4 ∧ ρ 29 8 = Int32.ofNat (c 2 - 1) ∧ ρ 5 (c 2 - 1) = Int32.ofNat (len (c 2 - 1)) ∧ len (c 2 - 1) ≤ 24 ∧ μ 82 39 = Int32.ofNat (c 2 - 1) ∧ μ 90 (c 2 - 1) = Int32.ofNat (len (c 2 - 1)) := by
  obtain ⟨_, _, ns, _, pk, _⟩ := h
  have c4 := ns.1.c2
  obtain ⟨q1, q2, q3, _⟩ := pk.2.2.2.2.2.1 hd
  obtain ⟨a1, a2, a3⟩ := pk.1 (c 2 - 1) (by omega)
  exact ⟨by omega, q2, a2, a1, q3, a3⟩
theorem SX.em {T : TS} {a t L : Nat} {k x : Int32} {ρ r : zS} {τ : zT} (h : SX T a ρ τ) (e : EM t L k x ρ r) : SX T a r τ := by
  have z : ∀ q, q = 17 ∨ q = 25 ∨ q = 26 ∨ q = 27 → r q = ρ q := fun q hq => e.1 q (by omega) (by omega) (by omega) (by omega) (by omega) (by omega) (by omega) (by omega) (by omega)
  exact h.of (z 17 (by decide)) (z 25 (by decide)) (z 26 (by decide)) (z 27 (by decide)) rfl rfl
theorem NNX.em {c : Nat → Nat} {ws : Nat → Nat → Int64} {nv : Nat} {wv : Nat → Int64} {t L : Nat} {k x : Int32} {ρ r : zS} {τ : zT} (h : NNX c ws nv wv ρ τ) (e : EM t L k x ρ r) : NNX c ws nv wv r τ := by
  have z : ∀ q, q = 18 ∨ q = 20 ∨ q = 21 → r q = ρ q := fun q hq => e.1 q (by omega) (by omega) (by omega) (by omega) (by omega) (by omega) (by omega) (by omega) (by omega)
  exact h.of (fun s hs => e.2.1 s (by omega)) (z 18 (by decide)) (z 20 (by decide)) (z 21 (by decide)) rfl rfl
theorem p_semi {T : TS} {a : Nat} {c : Nat → Nat} {ws : Nat → Nat → Int64} {nv : Nat} {wv : Nat → Int64} {ρ : zS} {τ : zT} {b : Nat → Int32} {n : Int32} (tb : TB b n T.1 T.2.1 T.2.2.1 T.2.2.2.1 T.2.2.2.2) (h : SX T a ρ τ) (ns : NNX c ws nv wv ρ τ) : zp (zf_Reader_expect ρ τ 59) (fun r => ∀ N μ a0 len d, a0 ≤ a → 0 < d → SM T a μ → NSM c ws nv wv μ → PKW c len d ρ μ → LAT c ws len ρ τ μ → zp (zf_M_take N μ 59) (fun s => OUT T a0 c ws r.2.1 r.2.2 s)) := by
  refine zp_mono (p_take tb h ns (x := 59) (by decide)) fun r hr N μ a0 len d ha hd sm nm pk la => ?_
  rcases hr with ⟨e0, nk, fl, m1⟩ | ⟨e1, ek, sx, nx, xa, g, m1⟩
  · exact zp_mono (m1 N μ sm) fun s hs => Or.inl ⟨_, fl, hs⟩
  · refine zp_mono (m1 N μ sm) ?_
    rintro s ⟨sm', f⟩
    exact Or.inr ⟨a + 1, nv, wv, len, d, by omega, fun q => by omega, sx, sm', nx, nm.nx f, pk.rd xa.xf f.mf, la.rd xa.xf (gRTF g) f.mf⟩
theorem p_X_work {ρ : zS} {x1 x2 x3 x4 : Int32} : zp (zf_Weaver_work ρ x1 x2 x3 x4) (fun r => ∀ q, q ≠ 13 → q ≠ 14 → q ≠ 15 → q ≠ 16 → r q = ρ q) := by
  unfold zf_Weaver_work
  refine zp_bind fun r _ => zp_chk fun _ => zp_chk fun _ => zp_chk fun _ => zp_chk fun _ => zp_some fun q a b c d => ?_
  rw [zu_other d, zu_other c, zu_other b, zu_other a]
theorem SM.k {T : TS} {a : Nat} {μ : zS} (h : SM T a μ) {x : Int32} (hx : 1 ≤ x ∧ x ≤ 15) (e : T.1 a = x + 299) : μ 82 7 = 5 ∧ μ 82 8 = x := (h.d.word hx).mpr e
theorem p_M_stop {N : Nat} {μ : zS} (h : μ 82 7 = 5 ∧ μ 82 8 = 14) : zf_M_statement N μ = (zf_M_addStep N μ 13 (-1)).bind fun r24 => (zf_M_nextIfWell N r24.2).bind fun r25 => (zf_M_take N r25 59).bind fun r26 => some r26 := by
  unfold zf_M_statement
  rw [h.1, h.2]
  rfl
theorem p_M_wait {N : Nat} {μ : zS} (h : μ 82 7 = 5 ∧ μ 82 8 = 8) : zf_M_statement N μ = (zf_M_addStep N μ 7 0).bind fun r49 => (zf_M_nextIfWell N r49.2).bind fun r50 => (zf_M_lockNamed N r50).bind fun r51 => if 0 ≤ ((24 * (μ 82 39)) + r49.1) ∧ ((24 * (μ 82 39)) + r49.1) < 96 then (zf_M_take N (zx_up r51.2 93 ((24 * (μ 82 39)) + r49.1).toNatClampNeg r51.1) 59).bind fun r53 => some (r53) else none := by
  unfold zf_M_statement
  rw [h.1, h.2]
  rfl
theorem p_M_wake {N : Nat} {μ : zS} (h : μ 82 7 = 5 ∧ μ 82 8 = 9) : zf_M_statement N μ = (zf_M_addStep N μ 8 0).bind fun r39 => (zf_M_nextIfWell N r39.2).bind fun r40 => if ¬ (r40 82 9) = 0 then zb_M_statement_364 N r40 (24 * (μ 82 39)) r39.1 else (zf_M_isWord r40 10).bind fun r45 => if r45 = 0 then zb_M_statement_364 N r40 (24 * (μ 82 39)) r39.1 else if 0 ≤ ((24 * (μ 82 39)) + r39.1) ∧ ((24 * (μ 82 39)) + r39.1) < 96 then (zf_M_next N (zx_up r40 92 ((24 * (μ 82 39)) + r39.1).toNatClampNeg 9)).bind fun r48 => zb_M_statement_364 N r48 (24 * (μ 82 39)) r39.1 else none := by
  unfold zf_M_statement
  rw [h.1, h.2]
  rfl
theorem p_M_lock {N : Nat} {μ : zS} (h : μ 82 7 = 5 ∧ μ 82 8 = 3) : zf_M_statement N μ = (zf_M_addStep N μ 3 0).bind fun r64 => (zf_M_nextIfWell N r64.2).bind fun r65 => (zf_M_lockNamed N r65).bind fun r66 => if 0 ≤ ((24 * (μ 82 39)) + r64.1) ∧ ((24 * (μ 82 39)) + r64.1) < 96 then if ¬ (r66.2 82 9) = 0 then zb_M_statement_153 N (zx_up r66.2 93 ((24 * (μ 82 39)) + r64.1).toNatClampNeg r66.1) r64.1 else if 0 ≤ ((24 * (μ 82 39)) + r64.1) ∧ ((24 * (μ 82 39)) + r64.1) < 96 then zb_M_statement_153 N (zx_up (zx_up r66.2 93 ((24 * (μ 82 39)) + r64.1).toNatClampNeg r66.1) 82 40 ((r66.2 82 40) ||| (zJ_shl 1 r66.1))) r64.1 else none else none := by
  unfold zf_M_statement
  rw [h.1, h.2]
  rfl
theorem p_M_if {N : Nat} {μ : zS} (h : μ 82 7 = 5 ∧ μ 82 8 = 5) : zf_M_statement N μ = (zf_M_addStep N μ 5 (-1)).bind fun r59 => (zf_M_nextIfWell N r59.2).bind fun r60 => (zf_M_test N r60 r59.1).bind fun r61 => (zf_M_openBlock N r61 3 r59.1).bind fun r62 => some (r62) := by
  unfold zf_M_statement
  rw [h.1, h.2]
  rfl
theorem p_M_while {N : Nat} {μ : zS} (h : μ 82 7 = 5 ∧ μ 82 8 = 7) : zf_M_statement N μ = (zf_M_addStep N μ 6 (-1)).bind fun r59 => (zf_M_nextIfWell N r59.2).bind fun r60 => (zf_M_test N r60 r59.1).bind fun r61 => (zf_M_openBlock N r61 5 r59.1).bind fun r62 => some (r62) := by
  unfold zf_M_statement
  rw [h.1, h.2]
  rfl
theorem p_M_check {N : Nat} {μ : zS} (h : μ 82 7 = 5 ∧ μ 82 8 = 13) : zf_M_statement N μ = (zf_M_addStep N μ 12 (-1)).bind fun r27 => (zf_M_nextIfWell N r27.2).bind fun r28 => (zf_M_test N r28 r27.1).bind fun r29 => (zf_M_take N r29 59).bind fun r30 => some (r30) := by
  unfold zf_M_statement
  rw [h.1, h.2]
  rfl
theorem p_M_start {N : Nat} {μ : zS} (h : μ 82 7 = 5 ∧ μ 82 8 = 11) : zf_M_statement N μ = zb_M_statement_402 N μ (24 * (μ 82 39)) 10 := by
  unfold zf_M_statement
  rw [h.1, h.2]
  rfl
theorem p_M_join {N : Nat} {μ : zS} (h : μ 82 7 = 5 ∧ μ 82 8 = 12) : zf_M_statement N μ = zb_M_statement_402 N μ (24 * (μ 82 39)) 11 := by
  unfold zf_M_statement
  rw [h.1, h.2]
  rfl
theorem p_M_span {N : Nat} {μ : zS} (h : μ 82 7 = 5 ∧ μ 82 8 = 15) : zf_M_statement N μ = if (μ 82 41) = (-1) then if ¬ (μ 82 25) = 6 then (zf_M_next N μ).bind fun r19 => (zf_M_openBlock N r19 2 0).bind fun r20 => if 0 ≤ (r20 82 25) ∧ (r20 82 25) < 6 then some ((zx_up (zx_up (zx_up r20 82 41 (r20 82 25)) 91 (r20 82 25).toNatClampNeg (r20 82 39)) 82 25 ((r20 82 25) + 1))) else none else (zf_M_fail μ 4).bind fun r22 => some (r22) else (zf_M_cannot μ).bind fun r23 => some (r23) := by
  unfold zf_M_statement
  rw [h.1, h.2]
  rfl
theorem p_M_assign {N : Nat} {μ : zS} (h : μ 82 7 = 2) : zf_M_statement N μ = (zf_M_assign N μ).bind fun r72 => some (r72) := by
  unfold zf_M_statement
  rw [if_neg (fun q => q h)]
theorem s_stop {T : TS} {a N N' : Nat} {c : Nat → Nat} {ws : Nat → Nat → Int64} {nv : Nat} {wv : Nat → Int64} {len : Nat → Nat} {d : Nat} {ρ : zS} {τ : zT} {μ : zS} (rl : RLX T a c ws nv wv len d ρ τ μ) (hd : 0 < d) (hk : T.1 a = 313) : zp (zf_Reader_readStop N ρ τ) (fun r => zp (zf_M_statement N' μ) (fun s => OUT T a c ws r.1 r.2 s)) := by
  obtain ⟨t4, h8, h5, hL, h39, h90⟩ := rl.th hd
  obtain ⟨sx, sm, ns, nm, pk, la⟩ := rl
  have kk : ¬ T.1 a = 0 ∧ ¬ T.1 a = 1 := by rw [hk]; decide
  rw [p_M_stop (sm.k (x := 14) (by decide) hk)]
  unfold zf_Reader_readStop
  refine zp_bind (zp_mono (p_X_room sx h8 t4 h5 hL).2 fun r1 hr => ?_)
  rcases hr with ⟨l, e, fl⟩ | ⟨l, e⟩
  · refine zp_ite (fun _ => zp_some ?_) fun q => absurd e q
    refine p_M_begin sm nm kk h39 t4 h90 hL (fun _ r r' h' => zp_bind (zp_mono (p_F_take h') fun s hs => zp_some (Or.inl ⟨_, fl, hs⟩))) fun l' => by omega
  · subst e
    refine zp_ite (fun q => absurd q (show ¬ (1 : Int32) = 0 by decide)) fun _ => zp_bind (zp_mono (X.tk sm.1 sx ns kk) ?_)
    rintro r3 ⟨x1, x2, x3, x4, x5, x6⟩
    refine zp_bind (zp_mono (p_X_emit (t := c 2 - 1) (L := len (c 2 - 1)) (by rw [x3.1 29 (by decide)]; exact h8) t4 (by rw [x3.1 5 (by decide)]; exact h5) l) fun r4 em => ?_)
    have ce := CEx.of x4 em
    refine zp_bind (zp_mono (p_semi sm.1 (x1.em em) (x2.em em)) fun r5 hr5 => zp_some ?_)
    refine p_M_begin sm nm kk h39 t4 h90 hL (fun l' => by omega) fun _ r r' e1 as nx sm' nm' => zp_bind (zp_mono (hr5 N' r' a _ d (by omega) hd sm' nm' (pk.step hd rfl rfl l ns.1.c2 ce ((MEx.of as).rd nx.mf)) (la.step pk rfl rfl ce ((MEx.of as).rd nx.mf) (x5 23 (by decide) (by decide)) (by decide))) fun s hs => zp_some hs)
theorem SM.up {T : TS} {a q i : Nat} {x : Int32} {μ : zS} (h : SM T a μ) (hq : q ≠ 82 ∧ q ≠ 84) : SM T a (zx_up μ q i x) :=
  h.of (zu_other (Ne.symm hq.2)) fun j _ => by rw [zu_other (Ne.symm hq.1)]
theorem NSM.up {c : Nat → Nat} {ws : Nat → Nat → Int64} {nv : Nat} {wv : Nat → Int64} {q i : Nat} {x : Int32} {μ : zS} (h : NSM c ws nv wv μ) (hq : q ≠ 82 ∧ q ≠ 85 ∧ q ≠ 86) : NSM c ws nv wv (zx_up μ q i x) :=
  h.of (fun j _ => by rw [zu_other (Ne.symm hq.1)]) (fun p _ => by rw [zu_other (Ne.symm hq.2.2)]) (fun p _ => by rw [zu_other (Ne.symm hq.2.1)])
theorem p_sig {T : TS} {a b t L N N' : Nat} {c : Nat → Nat} {ws : Nat → Nat → Int64} {nv : Nat} {wv : Nat → Int64} {len : Nat → Nat} {d : Nat} {ρ ρ1 : zS} {τ τ1 : zT} {μ : zS} {k v1 v2 : Int32} (hb : a < b) (tb : TB (μ 84) (μ 82 4) T.1 T.2.1 T.2.2.1 T.2.2.2.1 T.2.2.2.2) (pk : PKW c len d ρ μ) (la : LAT c ws len ρ τ μ) (hd : 0 < d) (ht : t = c 2 - 1) (hL : L = len t) (hl : L < 24) (t4 : t < 4) (h8 : ρ 29 8 = Int32.ofNat t) (h5 : ρ 5 t = Int32.ofNat L) (f : RXF ρ ρ1) (g : RTF τ τ1) (sx : SX T b ρ1 τ1) (ns : NNX c ws nv wv ρ1 τ1) (hk : (v2 = 0 ∧ k = v1) ∨ (v2 ≠ 0 ∧ k = 9)) (nk : ¬ k = 10 ∧ ¬ k = 11) : zp (zb_Reader_readSignal_51 N ρ1 τ1 v1 v2) (fun r => ∀ μ1, SM T b μ1 → NSM c ws nv wv μ1 → MEx t L k μ μ1 → zp (zb_M_statement_364 N' μ1 (24 * Int32.ofNat t) (Int32.ofNat L)) (fun s => OUT T a c ws r.1 r.2 s)) := by
  unfold zb_Reader_readSignal_51
  refine zp_bind (zp_mono (p_locks tb sx ns N') ?_)
  rintro r6 ⟨-, ⟨e, fl, m⟩ | ⟨ne, nv', wv', sx', ns', f', g', m⟩⟩
  · refine zp_ite (fun q => zp_some fun μ1 sm nm me => ?_) fun q => absurd e q
    unfold zb_M_statement_364
    refine zp_bind (zp_mono (m μ1 sm nm) fun s hs => zp_chk fun _ => zp_bind (zp_mono (p_F_take (hs.up (by decide))) fun s' hs' => zp_some (Or.inl ⟨_, fl, hs'⟩)))
  · have main : zp (zb_Reader_readSignal_75 N r6.2.1 r6.2.2 r6.1 k) (fun r => ∀ μ1, SM T b μ1 → NSM c ws nv wv μ1 → MEx t L k μ μ1 → zp (zb_M_statement_364 N' μ1 (24 * Int32.ofNat t) (Int32.ofNat L)) (fun s => OUT T a c ws r.1 r.2 s)) := by
      have f2 := f.tr f'
      have g2 := g.tr g'
      unfold zb_Reader_readSignal_75
      have e29 : r6.2.1 29 = ρ 29 := f2.1 29 (by decide) (by decide) (by decide)
      have e5 : r6.2.1 5 = ρ 5 := f2.1 5 (by decide) (by decide) (by decide)
      refine zp_bind (zp_mono (p_X_emit (t := t) (L := L) (by rw [e29]; exact h8) t4 (by rw [e5]; exact h5) hl) fun r9 em => zp_bind (zp_mono (p_semi tb (sx'.em em) (ns'.em em)) fun r10 h10 => zp_some fun μ1 sm nm me => ?_))
      have ce := CEx.of f2 em
      unfold zb_M_statement_364
      rw [(z24 t4 (by omega)).2.1]
      refine zp_bind (zp_mono (m μ1 sm nm) ?_)
      rintro s ⟨s1, s2, s3, s4⟩
      refine zp_chk fun _ => zp_bind (zp_mono (h10 N' _ a _ d (by omega) hd (s2.up (by decide)) (s3.up (by decide)) (pk.step hd ht hL hl ns'.1.c2 ce ((me.rd s4).up93)) (la.step pk ht hL ce ((me.rd s4).up93) (g2 23 (by decide) (by decide)) nk)) fun s hs => zp_some hs)
    refine zp_ite (fun q => absurd q ne) fun _ => ?_
    rcases hk with ⟨hv, hk⟩ | ⟨hv, hk⟩
    · refine zp_ite (fun _ => ?_) fun z => absurd hv z
      rw [← hk]; exact main
    · refine zp_ite (fun z => absurd z hv) fun _ => ?_
      rw [← hk]; exact main
theorem s_wait {T : TS} {a N N' : Nat} {c : Nat → Nat} {ws : Nat → Nat → Int64} {nv : Nat} {wv : Nat → Int64} {len : Nat → Nat} {d : Nat} {ρ : zS} {τ : zT} {μ : zS} (rl : RLX T a c ws nv wv len d ρ τ μ) (hd : 0 < d) (hk : T.1 a = 307) : zp (zf_Reader_readSignal N ρ τ 7) (fun r => zp (zf_M_statement N' μ) (fun s => OUT T a c ws r.1 r.2 s)) := by
  obtain ⟨t4, h8, h5, hL, h39, h90⟩ := rl.th hd
  obtain ⟨sx, sm, ns, nm, pk, la⟩ := rl
  have kk : ¬ T.1 a = 0 ∧ ¬ T.1 a = 1 := by rw [hk]; decide
  rw [p_M_wait (sm.k (x := 8) (by decide) hk)]
  unfold zf_Reader_readSignal zb_Reader_readSignal_38 zb_Reader_readSignal_39
  refine zp_bind (zp_mono (p_X_room sx h8 t4 h5 hL).2 fun r1 hr => ?_)
  rcases hr with ⟨l, e, fl⟩ | ⟨l, e⟩
  · refine zp_ite (fun q => absurd e q) fun _ => zp_some ?_
    refine p_M_begin sm nm kk h39 t4 h90 hL (fun _ r r' h' => zp_bind (zp_mono (p_F_lockNamed h') fun s hs => zp_chk fun _ => zp_bind (zp_mono (p_F_take (hs.up (by decide))) fun s hs => zp_some (Or.inl ⟨_, fl, hs⟩)))) fun l' => by omega
  · subst e
    refine zp_ite (fun _ => zp_bind (zp_mono (X.tk sm.1 sx ns kk) ?_)) fun q => absurd (show ¬ (1 : Int32) = 0 by decide) q
    rintro r3 ⟨x1, x2, x3, x4, x5, x6⟩
    refine zp_ite (fun _ => zp_ite (fun _ => ?_) fun q => absurd rfl q) fun q => absurd (show ¬ (7 : Int32) = 8 by decide) q
    refine zp_mono (p_sig (a := a) (k := 7) (N' := N') (by omega) sm.1 pk la hd rfl rfl l t4 h8 h5 x4 x5 x1 x2 (Or.inl ⟨rfl, rfl⟩) (by decide)) fun r hr => ?_
    refine p_M_begin sm nm kk h39 t4 h90 hL (fun l' => by omega) fun _ r r' e1 as nx sm' nm' => ?_
    rw [e1, h39]
    exact hr r' sm' nm' ((MEx.of as).rd nx.mf)
theorem s_wake {T : TS} {a N N' : Nat} {c : Nat → Nat} {ws : Nat → Nat → Int64} {nv : Nat} {wv : Nat → Int64} {len : Nat → Nat} {d : Nat} {ρ : zS} {τ : zT} {μ : zS} (rl : RLX T a c ws nv wv len d ρ τ μ) (hd : 0 < d) (hk : T.1 a = 308) : zp (zf_Reader_readSignal N ρ τ 8) (fun r => zp (zf_M_statement N' μ) (fun s => OUT T a c ws r.1 r.2 s)) := by
  obtain ⟨t4, h8, h5, hL, h39, h90⟩ := rl.th hd
  obtain ⟨sx, sm, ns, nm, pk, la⟩ := rl
  have kk : ¬ T.1 a = 0 ∧ ¬ T.1 a = 1 := by rw [hk]; decide
  rw [p_M_wake (sm.k (x := 9) (by decide) hk)]
  have F364 : ∀ {Q : zS → Prop} {p : Int32} (r' : zS) (u v : Int32), MFl r' p → (∀ s, MFl s p → Q s) → zp (zb_M_statement_364 N' r' u v) Q := by
    intro Q p r' u v h k
    unfold zb_M_statement_364
    exact zp_bind (zp_mono (p_F_lockNamed h) fun s hs => zp_chk fun _ => zp_bind (zp_mono (p_F_take (hs.up (by decide))) fun s hs => zp_some (k s hs)))
  unfold zf_Reader_readSignal zb_Reader_readSignal_38 zb_Reader_readSignal_39
  refine zp_bind (zp_mono (p_X_room sx h8 t4 h5 hL).2 fun r1 hr => ?_)
  rcases hr with ⟨l, e, fl⟩ | ⟨l, e⟩
  · refine zp_ite (fun q => absurd e q) fun _ => zp_some ?_
    refine p_M_begin sm nm kk h39 t4 h90 hL (fun _ r r' h' => zp_ite (fun _ => F364 r' _ _ h' fun s hs => Or.inl ⟨_, fl, hs⟩) fun q => absurd (Classical.not_not.mp q) h'.1) fun l' => by omega
  · subst e
    refine zp_ite (fun _ => zp_bind (zp_mono (X.tk sm.1 sx ns kk) ?_)) fun q => absurd (show ¬ (1 : Int32) = 0 by decide) q
    rintro r3 ⟨x1, x2, x3, x4, x5, x6⟩
    refine zp_ite (fun q => absurd rfl q) fun _ => ?_
    rw [x1.k]
    refine zp_ite (fun z => zp_ite (fun _ => ?_) fun q => absurd rfl q) fun z => zp_ite (fun q => absurd q (by decide)) fun _ => ?_
    · refine zp_mono (p_sig (a := a) (k := 8) (N' := N') (by omega) sm.1 pk la hd rfl rfl l t4 h8 h5 x4 x5 x1 x2 (Or.inl ⟨rfl, rfl⟩) (by decide)) fun r hr => ?_
      refine p_M_begin sm nm kk h39 t4 h90 hL (fun l' => by omega) fun _ r r' e1 as nx sm' nm' => ?_
      rw [e1, h39]
      refine zp_ite (fun q => absurd sm'.2.2.2 q) fun _ => zp_bind (zp_mono (p_M_isWord sm'.d (c := 10) (by decide)) fun u hu => zp_ite (fun _ => hr r' sm' nm' ((MEx.of as).rd nx.mf)) fun y => ?_)
      rcases hu with hu | hu
      · exact absurd hu.1 y
      · exact absurd hu.2 z
    · have z' : T.1 (a + 1) = 309 := Classical.not_not.mp z
      have kk2 : ¬ T.1 (a + 1) = 0 ∧ ¬ T.1 (a + 1) = 1 := by rw [z']; decide
      refine zp_bind (zp_mono (X.tk sm.1 x1 x2 kk2) ?_)
      rintro r4 ⟨y1, y2, y3, y4, y5, y6⟩
      refine zp_mono (p_sig (a := a) (k := 9) (N' := N') (by omega) sm.1 pk la hd rfl rfl l t4 h8 h5 (x4.tr y4) (x5.tr y5) y1 y2 (Or.inr ⟨by decide, rfl⟩) (by decide)) fun r hr => ?_
      refine p_M_begin sm nm kk h39 t4 h90 hL (fun l' => by omega) fun _ r r' e1 as nx sm' nm' => ?_
      rw [e1, h39, (z24 t4 (by omega)).2.1]
      refine zp_ite (fun q => absurd sm'.2.2.2 q) fun _ => zp_bind (zp_mono (p_M_isWord sm'.d (c := 10) (by decide)) fun u hu => zp_ite (fun y => ?_) fun _ => zp_chk fun _ => zp_bind (zp_mono (M.tk (sm'.up (by decide)) (nm'.up (by decide)) kk2) ?_))
      · exfalso
        rcases hu with hu | hu
        · exact hu.2 z'
        · rw [hu.1] at y; exact absurd y (by decide)
      · rintro ν ⟨n1, n2, n3, n4⟩
        exact hr ν n1 n2 ((((MEx.of as).rd nx.mf).up92).rd n4)
theorem PKW.opn {c len : Nat → Nat} {d : Nat} {s m st : Int32} {ρ ρ1 μ r ν : zS} (h : PKW c len d ρ μ) (hd : 0 < d) (d8 : d < 8) (x : XA0 ρ ρ1) (e : ENT s m d ρ1 r) (o : OBM s st d μ ν) (hs : s ≠ 2) : PKW c len (d + 1) r ν := by
  obtain ⟨p1, p2, p3, p4, p5, p6, p7⟩ := h
  obtain ⟨e1, e2, e3, e4, e5, e6, e7⟩ := e
  obtain ⟨o1, o2, o3, o4, o5⟩ := o
  obtain ⟨q1, q2, q3, q4, q5, q6⟩ := p6 hd
  have r5 : r 5 = ρ 5 := by rw [e1 5 (by decide) (by decide) (by decide) (by decide) (by decide) (by decide) (by decide), x.1 5 (by decide)]
  have r7 : r 7 = ρ 7 := by rw [e1 7 (by decide) (by decide) (by decide) (by decide) (by decide) (by decide) (by decide), x.1 7 (by decide)]
  have n90 : ν 90 = μ 90 := o1 90 (by decide) (by decide) (by decide) (by decide)
  have n92 : ν 92 = μ 92 := o1 92 (by decide) (by decide) (by decide) (by decide)
  rcases e7 with e7 | e7
  · exact absurd e7.1 hs
  refine ⟨fun t ht => by rw [r5, n90]; exact p1 t ht, fun t a b => by rw [r5]; exact p2 t a b, by rw [e6 4 (by decide), x.1 4 (by decide)]; exact p3, by rw [e7.2.2.1, x.1 4 (by decide), o2 25 (by decide) (by decide) (by decide) (by decide) (by decide)]; exact p4, ⟨by omega, e4⟩, fun _ => ⟨q1, by rw [e5 8 (by decide) (by decide) (by decide), x.1 29 (by decide)]; exact q2, by rw [o2 39 (by decide) (by decide) (by decide) (by decide) (by decide)]; exact q3, by rw [e7.2.1, x.1 29 (by decide), o2 41 (by decide) (by decide) (by decide) (by decide) (by decide)]; exact q4, o3, fun i hi => ?_⟩, fun t s ht hs => by rw [r7, n92]; exact p7 t s ht hs⟩
  by_cases q : i = d
  · rw [q, e2.1, o4.1]
  · rw [(e3 i q).1, (o5 i q).1, x.1 30 (by decide)]; exact q6 i (by omega)
theorem LAT.opn {c : Nat → Nat} {ws : Nat → Nat → Int64} {len : Nat → Nat} {d : Nat} {s m st : Int32} {ρ ρ1 μ r ν : zS} {τ υ : zT} (h : LAT c ws len ρ τ μ) (x : XA0 ρ ρ1) (e : ENT s m d ρ1 r) (o : OBM s st d μ ν) (g : ∀ q, q ≠ 25 → υ q = τ q) : LAT c ws len r υ ν := by
  have n : ∀ q, q = 85 ∨ q = 86 ∨ q = 87 ∨ q = 92 ∨ q = 93 → ν q = μ q := fun q hq => o.1 q (by omega) (by omega) (by omega) (by omega)
  exact h.of (by rw [e.1 24 (by decide) (by decide) (by decide) (by decide) (by decide) (by decide) (by decide), x.1 24 (by decide)]) (g 23 (by decide)) (o.2.1 19 (by decide) (by decide) (by decide) (by decide) (by decide)) (n 87 (by decide)) (n 92 (by decide)) (n 93 (by decide)) (fun p _ => by rw [n 86 (by decide)]) (fun p _ => by rw [n 85 (by decide)])
theorem NSM.opn {c : Nat → Nat} {ws : Nat → Nat → Int64} {nv : Nat} {wv : Nat → Int64} {d : Nat} {s st : Int32} {μ ν : zS} (h : NSM c ws nv wv μ) (o : OBM s st d μ ν) : NSM c ws nv wv ν :=
  h.of (fun i hi => o.2.1 i (by omega) (by omega) (by omega) (by omega) (by omega)) (fun p _ => by rw [o.1 86 (by decide) (by decide) (by decide) (by decide)]) (fun p _ => by rw [o.1 85 (by decide) (by decide) (by decide) (by decide)])
theorem p_oblk {T : TS} {a d : Nat} {c : Nat → Nat} {ws : Nat → Nat → Int64} {nv : Nat} {wv : Nat → Int64} {ρ : zS} {τ : zT} {b : Nat → Int32} {n s m : Int32} (tb : TB b n T.1 T.2.1 T.2.2.1 T.2.2.2.1 T.2.2.2.2) (h : SX T a ρ τ) (ns : NNX c ws nv wv ρ τ) (h6 : ρ 29 6 = Int32.ofNat d) (hd : 0 < d ∧ d ≤ 8) (hs : s ≠ 2) : zp (zf_Reader_openBlock ρ τ s m) (fun r => ∀ N μ a0 len st, a0 ≤ a → SM T a μ → NSM c ws nv wv μ → PKW c len d ρ μ → LAT c ws len ρ τ μ → zp (zf_M_openBlock N μ s st) (fun s => OUT T a0 c ws r.1 r.2 s)) := by
  refine zp_mono (p_open tb h ns h6 hd.2) fun r hr N μ a0 len st ha sm nm pk la => ?_
  have h46 := (pk.2.2.2.2.2.1 hd.1).2.2.2.2.1
  rcases hr with ⟨fl, m1⟩ | ⟨d8, sx, nx, ⟨ρ1, xa, en⟩, g, m1⟩
  · exact zp_mono (m1 N μ st sm h46) fun s hs => Or.inl ⟨_, fl, hs⟩
  · refine zp_mono (m1 N μ st sm h46) ?_
    rintro ν ⟨sm', o⟩
    exact Or.inr ⟨a + 1, nv, wv, len, d + 1, by omega, fun q => absurd q (Nat.succ_ne_zero d), sx, sm', nx, nm.opn o, pk.opn hd.1 d8 xa en o hs, la.opn xa en o g⟩
theorem s_lock {T : TS} {a N N' : Nat} {c : Nat → Nat} {ws : Nat → Nat → Int64} {nv : Nat} {wv : Nat → Int64} {len : Nat → Nat} {d : Nat} {ρ : zS} {τ : zT} {μ : zS} (rl : RLX T a c ws nv wv len d ρ τ μ) (hd : 0 < d) (hk : T.1 a = 302) : zp (zf_Reader_readLock N ρ τ) (fun r => zp (zf_M_statement N' μ) (fun s => OUT T a c ws r.1 r.2 s)) := by
  obtain ⟨t4, h8, h5, hL, h39, h90⟩ := rl.th hd
  obtain ⟨sx, sm, ns, nm, pk, la⟩ := rl
  have kk : ¬ T.1 a = 0 ∧ ¬ T.1 a = 1 := by rw [hk]; decide
  rw [p_M_lock (sm.k (x := 3) (by decide) hk)]
  unfold zf_Reader_readLock zb_M_statement_153
  refine zp_bind (zp_mono (p_X_room sx h8 t4 h5 hL).2 fun r1 hr => ?_)
  rcases hr with ⟨l, e, fl⟩ | ⟨l, e⟩
  · refine zp_ite (fun _ => zp_some ?_) fun q => absurd e q
    refine p_M_begin sm nm kk h39 t4 h90 hL (fun _ r r' h' => zp_bind (zp_mono (p_F_lockNamed h') fun s hs => zp_chk fun _ => zp_ite (fun _ => zp_bind (zp_mono (p_F_openBlock (hs.up (by decide))) fun s hs => zp_some (Or.inl ⟨_, fl, hs⟩))) fun q => absurd (Classical.not_not.mp q) hs.1)) fun l' => by omega
  · subst e
    refine zp_ite (fun q => absurd q (show ¬ (1 : Int32) = 0 by decide)) fun _ => zp_bind (zp_mono (X.tk sm.1 sx ns kk) ?_)
    rintro r3 ⟨x1, x2, x3, x4, x5, x6⟩
    refine zp_bind (zp_mono (p_locks sm.1 x1 x2 N') ?_)
    rintro r6 ⟨-, ⟨e, fl, m⟩ | ⟨ne, nv', wv', sx', ns', f', g', m⟩⟩
    · refine zp_ite (fun _ => zp_some ?_) fun q => absurd e q
      refine p_M_begin sm nm kk h39 t4 h90 hL (fun l' => by omega) fun _ r r' e1 as nx sm' nm' => zp_bind (zp_mono (m r' sm' nm') fun s hs => zp_chk fun _ => zp_ite (fun _ => zp_bind (zp_mono (p_F_openBlock (hs.up (by decide))) fun s hs => zp_some (Or.inl ⟨_, fl, hs⟩))) fun q => absurd (Classical.not_not.mp q) hs.1)
    · have f2 := x4.tr f'
      have g2 := x5.tr g'
      have e29 : r6.2.1 29 = ρ 29 := f2.1 29 (by decide) (by decide) (by decide)
      have e5 : r6.2.1 5 = ρ 5 := f2.1 5 (by decide) (by decide) (by decide)
      refine zp_ite (fun q => absurd q ne) fun _ => zp_bind (zp_mono (p_X_emit (t := c 2 - 1) (L := len (c 2 - 1)) (by rw [e29]; exact h8) t4 (by rw [e5]; exact h5) l) fun r9 em => ?_)
      have ce := CEx.of f2 em
      refine zp_bind (zp_mono (p_oblk (d := d) sm.1 (sx'.em em) (ns'.em em) (by rw [ce.2.2.2.2.2.2.2.1 6 (by decide)]; exact pk.2.2.2.2.1.2) ⟨hd, pk.2.2.2.2.1.1⟩ (by decide)) fun r10 h10 => zp_some ?_)
      refine p_M_begin sm nm kk h39 t4 h90 hL (fun l' => by omega) fun _ r r' e1 as nx sm' nm' => ?_
      rw [e1, h39, (z24 t4 (by omega)).2.1]
      refine zp_bind (zp_mono (m r' sm' nm') ?_)
      rintro s ⟨s1, s2, s3, s4⟩
      have me := ((((MEx.of as).rd nx.mf).rd s4).up93 (x := s.1))
      have me' : MEx (c 2 - 1) (len (c 2 - 1)) 3 μ (zx_up (zx_up s.2 93 (24 * (c 2 - 1) + len (c 2 - 1)) s.1) 82 40 ((s.2 82 40) ||| (zJ_shl 1 s.1))) := by
        unfold MEx at me ⊢
        rw [zu_other (q := 82) (p := 87) (by decide), zu_other (q := 82) (p := 103) (by decide), zu_other (q := 82) (p := 90) (by decide), zu_other (q := 82) (p := 92) (by decide), zu_other (q := 82) (p := 93) (by decide), zu_other (q := 82) (p := 86) (by decide), zu_other (q := 82) (p := 85) (by decide)]
        refine ⟨me.1, fun i hi => ?_, me.2.2⟩
        rw [zx_up_same, zu_ne (by omega)]
        exact me.2.1 i hi
      refine zp_chk fun _ => zp_ite (fun q => absurd s2.2.2.2 q) fun _ => zp_chk fun _ => zp_bind (zp_mono (h10 N' _ a _ _ (by omega) ?_ ?_ (pk.step hd rfl rfl l ns'.1.c2 ce me') (la.step pk rfl rfl ce me' (g2 23 (by decide) (by decide)) (by decide))) fun s hs => zp_some hs)
      · refine (s2.up (q := 93) (by decide)).of (zu_other (by decide)) fun i hi => ?_
        rw [zx_up_same, zu_ne (by omega)]
      · refine (s3.up (q := 93) (by decide)).of (fun i hi => ?_) (fun p _ => by rw [zu_other (by decide)]) (fun p _ => by rw [zu_other (by decide)])
        rw [zx_up_same, zu_ne (by omega)]
theorem p_test {T : TS} {b t L N N' : Nat} {c : Nat → Nat} {ws : Nat → Nat → Int64} {nv : Nat} {wv : Nat → Int64} {ρ ρ1 : zS} {τ τ1 : zT} {μ : zS} {k : Int32} {bb : Nat → Int32} {nn : Int32} (tb : TB bb nn T.1 T.2.1 T.2.2.1 T.2.2.2.1 T.2.2.2.2) (hl : L < 24) (t4 : t < 4) (h8 : ρ 29 8 = Int32.ofNat t) (h5 : ρ 5 t = Int32.ofNat L) (f : RXF ρ ρ1) (g : RTF τ τ1) (sx : SX T b ρ1 τ1) (ns : NNX c ws nv wv ρ1 τ1) : zp (zf_Reader_readTest N ρ1 τ1 k) (fun r => (r.1 = 0 ∧ ∃ p, XFl r.2.1 p ∧ ∀ μ1, SM T b μ1 → NSM c ws nv wv μ1 → μ1 82 39 = Int32.ofNat t → zp (zf_M_test N' μ1 (Int32.ofNat L)) (fun s => MFl s p)) ∨ (r.1 ≠ 0 ∧ ∃ nv' wv' b', b < b' ∧ SX T b' r.2.1 r.2.2 ∧ NNX c ws nv' wv' r.2.1 r.2.2 ∧ CEx t L k ρ r.2.1 ∧ RTF τ r.2.2 ∧ ∀ μ1, SM T b μ1 → NSM c ws nv wv μ1 → μ1 82 39 = Int32.ofNat t → MEx t L k μ μ1 → zp (zf_M_test N' μ1 (Int32.ofNat L)) (fun s => SM T b' s ∧ NSM c ws nv' wv' s ∧ MEx t L k μ s))) := by
  unfold zf_Reader_readTest
  refine zp_bind (zp_mono (p_testv tb sx ns N') ?_)
  rintro r1 (⟨e, fl, m⟩ | ⟨ne, nv1, wv1, sx1, ns1, f1, g1, m⟩)
  · refine zp_ite (fun q => absurd e q) fun _ => zp_some (Or.inl ⟨rfl, _, fl, fun μ1 sm nm h39 => ?_⟩)
    unfold zf_M_test
    refine zp_ite (fun _ => zp_bind (zp_mono (m μ1 sm nm) fun s hs => zp_chk fun _ => zp_ite (fun q => absurd q hs.1) fun _ => zp_some (hs.up (by decide)))) fun q => absurd sm.2.2.2 q
  · refine zp_ite (fun _ => ?_) fun q => absurd ne q
    rw [sx1.k]
    have main : (T.1 (b + 1) = 256 ∨ T.1 (b + 1) = 257 ∨ T.1 (b + 1) = 60 ∨ T.1 (b + 1) = 62) → zp (zb_Reader_readTest_52 N r1.2.1 r1.2.2 k r1.1 (T.1 (b + 1))) (fun r => (r.1 = 0 ∧ ∃ p, XFl r.2.1 p ∧ ∀ μ1, SM T b μ1 → NSM c ws nv wv μ1 → μ1 82 39 = Int32.ofNat t → zp (zf_M_test N' μ1 (Int32.ofNat L)) (fun s => MFl s p)) ∨ (r.1 ≠ 0 ∧ ∃ nv' wv' b', b < b' ∧ SX T b' r.2.1 r.2.2 ∧ NNX c ws nv' wv' r.2.1 r.2.2 ∧ CEx t L k ρ r.2.1 ∧ RTF τ r.2.2 ∧ ∀ μ1, SM T b μ1 → NSM c ws nv wv μ1 → μ1 82 39 = Int32.ofNat t → MEx t L k μ μ1 → zp (zf_M_test N' μ1 (Int32.ofNat L)) (fun s => SM T b' s ∧ NSM c ws nv' wv' s ∧ MEx t L k μ s))) := by
      intro hk
      have kk : ¬ T.1 (b + 1) = 0 ∧ ¬ T.1 (b + 1) = 1 := by rcases hk with e | e | e | e <;> rw [e] <;> decide
      have ref : ∀ {Q : zS → Prop} (μ1 : zS), SM T b μ1 → NSM c ws nv wv μ1 → μ1 82 39 = Int32.ofNat t → (∀ μ2, SM T (b + 2) μ2 → NSM c ws nv1 wv1 μ2 → (∀ μ', MEx t L k μ' μ1 → MEx t L k μ' μ2) → zp (zf_M_value N' μ2 0) (fun s => ∀ i, zp (some (zx_up s.2 100 i s.1)) Q)) → zp (zf_M_test N' μ1 (Int32.ofNat L)) Q := by
        intro Q μ1 sm nm h39 kont
        unfold zf_M_test
        refine zp_ite (fun _ => zp_bind (zp_mono (m μ1 sm nm) ?_)) fun q => absurd sm.2.2.2 q
        rintro s ⟨s1, s2, s3, s4⟩
        have fin : zp (zb_M_test_98 N' (zx_up (zx_up s.2 99 ((24 * (μ1 82 39)) + Int32.ofNat L).toNatClampNeg s.1) 101 ((24 * (μ1 82 39)) + Int32.ofNat L).toNatClampNeg (s.2 82 8)) ((24 * (μ1 82 39)) + Int32.ofNat L)) Q := by
          unfold zb_M_test_98
          refine zp_bind (zp_mono (M.tk ((s2.up (q := 99) (by decide)).up (q := 101) (by decide)) ((s3.up (q := 99) (by decide)).up (q := 101) (by decide)) kk) ?_)
          rintro ν ⟨n1, n2, n3, n4⟩
          refine zp_bind (zp_mono (kont ν n1 n2 fun μ' me => (((me.rd s4).up (by decide)).up (by decide)).rd n4) fun u hu => zp_chk fun _ => hu _)
        have td := s2.d.test.mpr hk
        refine zp_chk fun _ => zp_ite (fun _ => zp_chk fun _ => zp_ite (fun q => absurd td.1 q) fun _ => zp_ite (fun _ => fin) fun q1 => zp_ite (fun _ => fin) fun q2 => zp_ite (fun _ => fin) fun q3 => zp_ite (fun _ => fin) fun q4 => ?_) fun q => absurd s2.2.2.2 q
        exfalso
        rcases td.2 with e | e | e | e
        · exact q1 e
        · exact q2 e
        · exact q3 e
        · exact q4 e
      unfold zb_Reader_readTest_52
      refine zp_bind (zp_mono (X.tk tb sx1 ns1 kk) ?_)
      rintro r4 ⟨x1, x2, x3, x4, x5, x6⟩
      refine zp_bind (zp_mono (p_testv tb x1 x2 N') ?_)
      rintro r5 (⟨e, fl, m5⟩ | ⟨ne5, nv2, wv2, sx2, ns2, f2, g2, m5⟩)
      · refine zp_ite (fun q => absurd e q) fun _ => zp_some (Or.inl ⟨rfl, _, fl, fun μ1 sm nm h39 => ref μ1 sm nm h39 fun μ2 sm2 nm2 _ => ?_⟩)
        exact zp_mono (m5 μ2 sm2 nm2) fun s hs i => zp_some (hs.up (by decide))
      · have F := ((f.tr f1).tr x4).tr f2
        have G := ((g.tr g1).tr x5).tr g2
        have e29 : r5.2.1 29 = ρ 29 := F.1 29 (by decide) (by decide) (by decide)
        have e5 : r5.2.1 5 = ρ 5 := F.1 5 (by decide) (by decide) (by decide)
        refine zp_ite (fun _ => zp_bind (zp_mono (p_X_emit (t := t) (L := L) (by rw [e29]; exact h8) t4 (by rw [e5]; exact h5) hl) fun r7 em => zp_bind (zp_mono p_X_work fun r8 wk => zp_some (Or.inr ⟨show ¬ (1 : Int32) = 0 by decide, nv2, wv2, b + 2 + 1, by omega, ?_, ?_, (CEx.of F em).post fun q hq => wk q (by omega) (by omega) (by omega) (by omega), G, fun μ1 sm nm h39 me => ref μ1 sm nm h39 fun μ2 sm2 nm2 up => ?_⟩)))) fun q => absurd ne5 q
        · exact (sx2.em em).of (wk 17 (by decide) (by decide) (by decide) (by decide)) (wk 25 (by decide) (by decide) (by decide) (by decide)) (wk 26 (by decide) (by decide) (by decide) (by decide)) (wk 27 (by decide) (by decide) (by decide) (by decide)) rfl rfl
        · exact (ns2.em em).of (fun s _ => congrFun (wk 4 (by decide) (by decide) (by decide) (by decide)) s) (wk 18 (by decide) (by decide) (by decide) (by decide)) (wk 20 (by decide) (by decide) (by decide) (by decide)) (wk 21 (by decide) (by decide) (by decide) (by decide)) rfl rfl
        · refine zp_mono (m5 μ2 sm2 nm2) ?_
          rintro s ⟨s1, s2, s3, s4⟩ i
          exact zp_some ⟨s2.up (by decide), s3.up (by decide), ((up μ me).rd s4).up (by decide)⟩
    refine zp_ite (fun q => main (Or.inl q)) fun q1 => zp_ite (fun q => main (Or.inr (Or.inl q))) fun q2 => zp_ite (fun q => main (Or.inr (Or.inr (Or.inl q)))) fun q3 => zp_ite (fun q => main (Or.inr (Or.inr (Or.inr q)))) fun q4 => ?_
    refine zp_bind (zp_mono (p_X_fail (by decide)) fun r12 h12 => zp_chk fun _ => zp_some (Or.inl ⟨h12.1, _, h12.2, fun μ1 sm nm h39 => ?_⟩))
    rw [sx1.p]
    unfold zf_M_test zb_M_test_93
    refine zp_ite (fun _ => zp_bind (zp_mono (m μ1 sm nm) ?_)) fun q => absurd sm.2.2.2 q
    rintro s ⟨s1, s2, s3, s4⟩
    have can : zp ((zf_M_cannot (zx_up (zx_up s.2 99 ((24 * (μ1 82 39)) + Int32.ofNat L).toNatClampNeg s.1) 101 ((24 * (μ1 82 39)) + Int32.ofNat L).toNatClampNeg (s.2 82 8))).bind fun r7 => some r7) (fun s => MFl s (T.2.1 (b + 1))) := by
      have sm3 := (s2.up (q := 99) (i := ((24 * (μ1 82 39)) + Int32.ofNat L).toNatClampNeg) (x := s.1) (by decide)).up (q := 101) (i := ((24 * (μ1 82 39)) + Int32.ofNat L).toNatClampNeg) (x := s.2 82 8) (by decide)
      refine zp_bind (zp_mono (p_M_cannot sm3.2.2.2) fun u hu => zp_some ?_)
      rw [sm3.p] at hu
      exact hu
    refine zp_chk fun _ => zp_ite (fun _ => zp_chk fun _ => zp_ite (fun _ => can) fun z => ?_) fun q => absurd s2.2.2.2 q
    have no : ∀ x : Int32, (x = 1000 ∨ x = 1001 ∨ x = 60 ∨ x = 62) → s.2 82 8 ≠ x := by
      intro x hx e
      have := s2.d.test.mp ⟨Classical.not_not.mp z, by rw [e]; exact hx⟩
      rcases this with h | h | h | h
      · exact q1 h
      · exact q2 h
      · exact q3 h
      · exact q4 h
    exact zp_ite (fun q => absurd q (no 1000 (by decide))) fun _ => zp_ite (fun q => absurd q (no 1001 (by decide))) fun _ => zp_ite (fun q => absurd q (no 60 (by decide))) fun _ => zp_ite (fun q => absurd q (no 62 (by decide))) fun _ => can
theorem s_branch {T : TS} {a N N' : Nat} {c : Nat → Nat} {ws : Nat → Nat → Int64} {nv : Nat} {wv : Nat → Int64} {len : Nat → Nat} {d : Nat} {ρ : zS} {τ : zT} {μ : zS} {k s : Int32} (rl : RLX T a c ws nv wv len d ρ τ μ) (hd : 0 < d) (kk : ¬ T.1 a = 0 ∧ ¬ T.1 a = 1) (hs : s ≠ 2) (nk : ¬ k = 10 ∧ ¬ k = 11) : zp (zf_Reader_readBranch N ρ τ k s) (fun r => zp ((zf_M_addStep N' μ k (-1)).bind fun r59 => (zf_M_nextIfWell N' r59.2).bind fun r60 => (zf_M_test N' r60 r59.1).bind fun r61 => (zf_M_openBlock N' r61 s r59.1).bind fun r62 => some (r62)) (fun s => OUT T a c ws r.1 r.2 s)) := by
  obtain ⟨t4, h8, h5, hL, h39, h90⟩ := rl.th hd
  obtain ⟨sx, sm, ns, nm, pk, la⟩ := rl
  unfold zf_Reader_readBranch
  refine zp_bind (zp_mono (p_X_room sx h8 t4 h5 hL).2 fun r1 hr => ?_)
  rcases hr with ⟨l, e, fl⟩ | ⟨l, e⟩
  · refine zp_ite (fun _ => zp_some ?_) fun q => absurd e q
    refine p_M_begin sm nm kk h39 t4 h90 hL (fun _ r r' h' => zp_bind (zp_mono (p_F_test h') fun s hs => zp_bind (zp_mono (p_F_openBlock hs) fun s hs => zp_some (Or.inl ⟨_, fl, hs⟩)))) fun l' => by omega
  · subst e
    refine zp_ite (fun q => absurd q (show ¬ (1 : Int32) = 0 by decide)) fun _ => zp_bind (zp_mono (X.tk sm.1 sx ns kk) ?_)
    rintro r3 ⟨x1, x2, x3, x4, x5, x6⟩
    refine zp_bind (zp_mono (p_test (N' := N') (μ := μ) sm.1 l t4 h8 h5 x4 x5 x1 x2) ?_)
    rintro r4 (⟨e, p, fl, m⟩ | ⟨ne, nv', wv', b', hb, sx', ns', ce, g', m⟩)
    · refine zp_ite (fun _ => zp_some ?_) fun q => absurd e q
      refine p_M_begin sm nm kk h39 t4 h90 hL (fun l' => by omega) fun _ r r' e1 as nx sm' nm' => ?_
      have e39 : r' 82 39 = Int32.ofNat (c 2 - 1) := by rw [nx.2 39 (by decide) (by decide) (by decide) (by decide), as.2.1 39 (by decide)]; exact h39
      rw [e1]
      exact zp_bind (zp_mono (m r' sm' nm' e39) fun s hs => zp_bind (zp_mono (p_F_openBlock hs) fun s hs => zp_some (Or.inl ⟨_, fl, hs⟩)))
    · refine zp_ite (fun q => absurd q ne) fun _ => zp_bind (zp_mono (p_oblk (d := d) sm.1 sx' ns' (by rw [ce.2.2.2.2.2.2.2.1 6 (by decide)]; exact pk.2.2.2.2.1.2) ⟨hd, pk.2.2.2.2.1.1⟩ hs) fun r10 h10 => zp_some ?_)
      refine p_M_begin sm nm kk h39 t4 h90 hL (fun l' => by omega) fun _ r r' e1 as nx sm' nm' => ?_
      have e39 : r' 82 39 = Int32.ofNat (c 2 - 1) := by rw [nx.2 39 (by decide) (by decide) (by decide) (by decide), as.2.1 39 (by decide)]; exact h39
      rw [e1]
      refine zp_bind (zp_mono (m r' sm' nm' e39 ((MEx.of as).rd nx.mf)) ?_)
      rintro u ⟨u1, u2, u3⟩
      refine zp_bind (zp_mono (h10 N' u a _ _ (by omega) u1 u2 (pk.step hd rfl rfl l ns'.1.c2 ce u3) (la.step pk rfl rfl ce u3 (g' 23 (by decide) (by decide)) nk)) fun s hs => zp_some hs)
theorem s_check {T : TS} {a N N' : Nat} {c : Nat → Nat} {ws : Nat → Nat → Int64} {nv : Nat} {wv : Nat → Int64} {len : Nat → Nat} {d : Nat} {ρ : zS} {τ : zT} {μ : zS} (rl : RLX T a c ws nv wv len d ρ τ μ) (hd : 0 < d) (hk : T.1 a = 312) : zp (zf_Reader_readCheck N ρ τ) (fun r => zp (zf_M_statement N' μ) (fun s => OUT T a c ws r.1 r.2 s)) := by
  obtain ⟨t4, h8, h5, hL, h39, h90⟩ := rl.th hd
  obtain ⟨sx, sm, ns, nm, pk, la⟩ := rl
  have kk : ¬ T.1 a = 0 ∧ ¬ T.1 a = 1 := by rw [hk]; decide
  rw [p_M_check (sm.k (x := 13) (by decide) hk)]
  unfold zf_Reader_readCheck
  refine zp_bind (zp_mono (p_X_room sx h8 t4 h5 hL).2 fun r1 hr => ?_)
  rcases hr with ⟨l, e, fl⟩ | ⟨l, e⟩
  · refine zp_ite (fun _ => zp_some ?_) fun q => absurd e q
    refine p_M_begin sm nm kk h39 t4 h90 hL (fun _ r r' h' => zp_bind (zp_mono (p_F_test h') fun s hs => zp_bind (zp_mono (p_F_take hs) fun s hs => zp_some (Or.inl ⟨_, fl, hs⟩)))) fun l' => by omega
  · subst e
    refine zp_ite (fun q => absurd q (show ¬ (1 : Int32) = 0 by decide)) fun _ => zp_bind (zp_mono (X.tk sm.1 sx ns kk) ?_)
    rintro r3 ⟨x1, x2, x3, x4, x5, x6⟩
    refine zp_bind (zp_mono (p_test (N' := N') (μ := μ) sm.1 l t4 h8 h5 x4 x5 x1 x2) ?_)
    rintro r4 (⟨e, p, fl, m⟩ | ⟨ne, nv', wv', b', hb, sx', ns', ce, g', m⟩)
    · refine zp_ite (fun _ => zp_some ?_) fun q => absurd e q
      refine p_M_begin sm nm kk h39 t4 h90 hL (fun l' => by omega) fun _ r r' e1 as nx sm' nm' => ?_
      have e39 : r' 82 39 = Int32.ofNat (c 2 - 1) := by rw [nx.2 39 (by decide) (by decide) (by decide) (by decide), as.2.1 39 (by decide)]; exact h39
      rw [e1]
      exact zp_bind (zp_mono (m r' sm' nm' e39) fun s hs => zp_bind (zp_mono (p_F_take hs) fun s hs => zp_some (Or.inl ⟨_, fl, hs⟩)))
    · refine zp_ite (fun q => absurd q ne) fun _ => zp_bind (zp_mono (p_semi sm.1 sx' ns') fun r10 h10 => zp_some ?_)
      refine p_M_begin sm nm kk h39 t4 h90 hL (fun l' => by omega) fun _ r r' e1 as nx sm' nm' => ?_
      have e39 : r' 82 39 = Int32.ofNat (c 2 - 1) := by rw [nx.2 39 (by decide) (by decide) (by decide) (by decide), as.2.1 39 (by decide)]; exact h39
      rw [e1]
      refine zp_bind (zp_mono (m r' sm' nm' e39 ((MEx.of as).rd nx.mf)) ?_)
      rintro u ⟨u1, u2, u3⟩
      refine zp_bind (zp_mono (h10 N' u a _ d (by omega) hd u1 u2 (pk.step hd rfl rfl l ns'.1.c2 ce u3) (la.step pk rfl rfl ce u3 (g' 23 (by decide) (by decide)) (by decide))) fun s hs => zp_some hs)
theorem PKW.span {c len : Nat → Nat} {d : Nat} {m st : Int32} {ρ ρ1 μ r ν : zS} (h : PKW c len d ρ μ) (hd : 0 < d) (d8 : d < 8) (x : XA0 ρ ρ1) (e : ENT 2 m d ρ1 r) (o : OBM 2 st d μ ν) {i : Nat} {z : Int32} (h6 : ν 82 25 < 6) : PKW c len (d + 1) r (zx_up (zx_up (zx_up ν 82 41 (ν 82 25)) 91 i z) 82 25 (ν 82 25 + 1)) := by
  obtain ⟨p1, p2, p3, p4, p5, p6, p7⟩ := h
  obtain ⟨e1, e2, e3, e4, e5, e6, e7⟩ := e
  obtain ⟨o1, o2, o3, o4, o5⟩ := o
  obtain ⟨q1, q2, q3, q4, q5, q6⟩ := p6 hd
  have r5 : r 5 = ρ 5 := by rw [e1 5 (by decide) (by decide) (by decide) (by decide) (by decide) (by decide) (by decide), x.1 5 (by decide)]
  have r7 : r 7 = ρ 7 := by rw [e1 7 (by decide) (by decide) (by decide) (by decide) (by decide) (by decide) (by decide), x.1 7 (by decide)]
  have n90 : ν 90 = μ 90 := o1 90 (by decide) (by decide) (by decide) (by decide)
  have n92 : ν 92 = μ 92 := o1 92 (by decide) (by decide) (by decide) (by decide)
  have n25 : ν 82 25 = μ 82 25 := o2 25 (by decide) (by decide) (by decide) (by decide) (by decide)
  have u : ∀ q, q ≠ 82 → q ≠ 91 → (zx_up (zx_up (zx_up ν 82 41 (ν 82 25)) 91 i z) 82 25 (ν 82 25 + 1)) q = ν q := fun q a b => by rw [zu_other a, zu_other b, zu_other a]
  have u82 : ∀ j, j ≠ 25 → j ≠ 41 → (zx_up (zx_up (zx_up ν 82 41 (ν 82 25)) 91 i z) 82 25 (ν 82 25 + 1)) 82 j = ν 82 j := fun j a b => by rw [zx_up_same, zu_ne a, zu_other (by decide), zx_up_same, zu_ne b]
  rcases e7 with e7 | e7
  · have u25 : (zx_up (zx_up (zx_up ν 82 41 (ν 82 25)) 91 i z) 82 25 (ν 82 25 + 1)) 82 25 = ρ 4 3 + 1 := by rw [zx_up_same, zu_eq, n25, p4.1]
    have u41 : (zx_up (zx_up (zx_up ν 82 41 (ν 82 25)) 91 i z) 82 25 (ν 82 25 + 1)) 82 41 = ρ 4 3 := by rw [zx_up_same, zu_ne (by decide), zu_other (by decide), zx_up_same, zu_eq, n25, p4.1]
    refine ⟨fun t ht => by rw [r5, u 90 (by decide) (by decide), n90]; exact p1 t ht, fun t a b => by rw [r5]; exact p2 t a b, by rw [e6 4 (by decide), x.1 4 (by decide)]; exact p3, by rw [e7.2.2.1, x.1 4 (by decide), u25]; exact ⟨rfl, by rw [n25, ← p4.1] at h6; generalize ρ 4 3 = w at h6 ⊢; clear u25 u41; grind⟩, ⟨by omega, e4⟩, fun _ => ⟨q1, by rw [e5 8 (by decide) (by decide) (by decide), x.1 29 (by decide)]; exact q2, by rw [u82 39 (by decide) (by decide), o2 39 (by decide) (by decide) (by decide) (by decide) (by decide)]; exact q3, by rw [e7.2.1, x.1 4 (by decide), u41], by rw [u82 46 (by decide) (by decide)]; exact o3, fun i hi => ?_⟩, fun t s ht hs => by rw [r7, u 92 (by decide) (by decide), n92]; exact p7 t s ht hs⟩
    rw [u 103 (by decide) (by decide)]
    by_cases q : i = d
    · rw [q, e2.1, o4.1]
    · rw [(e3 i q).1, (o5 i q).1, x.1 30 (by decide)]; exact q6 i (by omega)
  · exact absurd rfl e7.1
theorem s_span {T : TS} {a N' : Nat} {c : Nat → Nat} {ws : Nat → Nat → Int64} {nv : Nat} {wv : Nat → Int64} {len : Nat → Nat} {d : Nat} {ρ : zS} {τ : zT} {μ : zS} (rl : RLX T a c ws nv wv len d ρ τ μ) (hd : 0 < d) (hk : T.1 a = 314) : zp (zf_Reader_readSpan ρ τ) (fun r => zp (zf_M_statement N' μ) (fun s => OUT T a c ws r.1 r.2 s)) := by
  obtain ⟨sx, sm, ns, nm, pk, la⟩ := rl
  have kk : ¬ T.1 a = 0 ∧ ¬ T.1 a = 1 := by rw [hk]; decide
  rw [p_M_span (sm.k (x := 15) (by decide) hk)]
  obtain ⟨q1, q2, q3, q4, q5, q6⟩ := pk.2.2.2.2.2.1 hd
  have p4 := pk.2.2.2.1.1
  have h6 := pk.2.2.2.1.2
  have fl : ∀ k : Int32, k ≠ 0 → ∀ {Q : zS × zT → Prop}, (∀ r : zS, XFl r (T.2.1 a) → Q (r, τ)) → zp ((zf_Reader_failHere ρ k).bind fun r => some (r.2, τ)) Q := by
    intro k hk Q h
    refine zp_bind (zp_mono (p_X_fail hk) fun r hr => zp_some (h _ ?_))
    rw [sx.p] at hr
    exact hr.2
  unfold zf_Reader_readSpan zf_Weaver_isInSpan
  refine zp_bind ?_
  by_cases sp : ρ 29 12 = -1
  · rw [if_pos sp]
    refine zp_some (zp_ite (fun _ => zp_ite (fun z => ?_) fun z => fl 4 (by decide) fun r hr => ?_) fun q => absurd rfl q)
    · refine zp_bind (zp_mono (X.tk sm.1 sx ns kk) ?_)
      rintro r3 ⟨x1, x2, x3, x4, x5, x6⟩
      refine zp_bind (zp_mono (p_open (d := d) (s := 2) (m := -1) sm.1 x1 x2 (by rw [x3.1 29 (by decide)]; exact pk.2.2.2.2.1.2) pk.2.2.2.2.1.1) fun r hr => zp_some ?_)
      refine zp_ite (fun _ => zp_ite (fun _ => zp_bind (zp_mono (M.tk sm nm kk) ?_)) fun y => ?_) fun y => absurd (q4 ▸ sp) y
      · rintro ν ⟨n1, n2, n3, n4⟩
        have h46 : ν 82 46 = Int32.ofNat d := by rw [n3.2 46 (by decide) (by decide) (by decide) (by decide)]; exact q5
        rcases hr with ⟨fl, m1⟩ | ⟨d8, sx', nx', ⟨ρ1, xa, en⟩, g, m1⟩
        · refine zp_bind (zp_mono (m1 N' ν 0 n1 h46) fun s hs => zp_chk fun _ => zp_some (Or.inl ⟨_, fl, ?_⟩))
          unfold MFl at *
          rw [zx_up_same, zu_ne (by decide), zu_ne (by decide), zu_other (by decide), zx_up_same, zu_ne (by decide), zu_ne (by decide)]
          exact hs
        · refine zp_bind (zp_mono (m1 N' ν 0 n1 h46) ?_)
          rintro s ⟨s1, o⟩
          refine zp_chk fun cc => zp_some (Or.inr ⟨a + 1 + 1, nv, wv, len, d + 1, by omega, fun q => absurd q (Nat.succ_ne_zero d), sx', ?_, nx', ?_, (pk.rd x4 n4).span hd d8 xa en o cc.2, ?_⟩)
          · refine s1.of (by rw [zu_other (by decide), zu_other (by decide), zu_other (by decide)]) fun i hi => ?_
            rw [zx_up_same, zu_ne (by omega), zu_other (by decide), zx_up_same, zu_ne (by omega)]
          · refine (n2.opn o).of (fun i hi => ?_) (fun p _ => by rw [zu_other (by decide), zu_other (by decide), zu_other (by decide)]) (fun p _ => by rw [zu_other (by decide), zu_other (by decide), zu_other (by decide)])
            rw [zx_up_same, zu_ne (by omega), zu_other (by decide), zx_up_same, zu_ne (by omega)]
          · have u : ∀ {i : Nat} {z : Int32} q, q ≠ 82 → q ≠ 91 → (zx_up (zx_up (zx_up s 82 41 (s 82 25)) 91 i z) 82 25 (s 82 25 + 1)) q = s q := fun q a b => by rw [zu_other a, zu_other b, zu_other a]
            refine ((la.rd x4 x5 n4).opn xa en o g).of rfl rfl ?_ (u 87 (by decide) (by decide)) (u 92 (by decide) (by decide)) (u 93 (by decide) (by decide)) (fun p _ => by rw [u 86 (by decide) (by decide)]) (fun p _ => by rw [u 85 (by decide) (by decide)])
            rw [zx_up_same, zu_ne (by decide), zu_other (by decide), zx_up_same, zu_ne (by decide)]
      · exfalso
        rw [← p4] at y
        have := Classical.not_not.mp y
        rw [this] at z
        exact absurd z (by decide)
    · have e6 : ρ 4 3 = 6 := Int32.le_antisymm h6 (Int32.not_lt.mp z)
      refine zp_ite (fun _ => zp_ite (fun y => absurd (p4 ▸ e6) y) fun _ => zp_bind (zp_mono (p_M_fail sm.2.2.2) fun s hs => zp_some (Or.inl ⟨_, hr, ?_⟩))) fun y => absurd (q4 ▸ sp) y
      rw [sm.p] at hs
      exact hs
  · rw [if_neg sp]
    refine zp_some (zp_ite (fun q => absurd q (by decide)) fun _ => fl 2 (by decide) fun r hr => ?_)
    refine zp_ite (fun y => absurd (q4.trans y) sp) fun _ => zp_bind (zp_mono (p_M_cannot sm.2.2.2) fun s hs => zp_some (Or.inl ⟨_, hr, ?_⟩))
    rw [sm.p] at hs
    exact hs
