-- both answer alike
set_option maxRecDepth 2000
theorem zo_two {L p : Nat} (hL : L ≤ 100) (hp : p ≤ 1) : 2 * Int32.ofNat L + Int32.ofNat p = Int32.ofNat (2 * L + p) := by
  have e : 2 * Int32.ofNat L = Int32.ofNat (2 * L) := by
    apply Int32.toInt_inj.mp
    have k2 : (2 : Int32).toInt = 2 := rfl
    rw [Int32.toInt_mul, zo_ti (by omega), zo_ti (by omega), k2, Int.bmod_def]
    omega
  rw [e]
  exact zo_plus rfl (by omega)
def RWL (t L p : Nat) (x : Int32) (lo : List Nat) (o r : Nat → Int32) : Prop := r (24 * t + L) = -1 ∧ ∀ j, j ≠ 24 * t + L → ((24 * t ≤ j ∧ 2 * (j - 24 * t) + p ∈ lo) → r j = x) ∧ (¬ (24 * t ≤ j ∧ 2 * (j - 24 * t) + p ∈ lo) → r j = o j)
def AW (t L : Nat) (lo : List Nat) (k : Int32) (μ ν : zS) : Prop :=
  RWL t L 0 (Int32.ofNat L) lo (μ 94) (ν 94) ∧ RWL t L 1 (Int32.ofNat L) lo (μ 95) (ν 95) ∧
  ((k = 13 ∧ ν 82 37 = -1 ∧ ν 102 = μ 102) ∨ (k ≠ 13 ∧ ν 82 37 = Int32.ofNat (2 * L) ∧ ν 102 (2 * L) = -1 ∧ ∀ j, j ≠ 2 * L → ν 102 j = μ 102 j))
theorem p_M_addStepW {N : Nat} {μ : zS} {k x : Int32} {t L : Nat} {lo : List Nat} (h39 : μ 82 39 = Int32.ofNat t) (ht : t < 4) (h90 : μ 90 t = Int32.ofNat L) (hL : L < 24) (hc : Ch (μ 102) lo (μ 82 37)) (hb : ∀ j, j ∈ lo → j < 2 * L) : zp (zf_M_addStep N μ k x) (fun s => AW t L lo k μ s.2) := by
  unfold zf_M_addStep
  rw [h39, zo_n (m := t) (by omega), h90, (z24 ht (by omega)).2.1]
  refine zp_chk fun _ => zp_ite (fun d => ?_) fun d => ?_
  · refine zp_chk fun _ => zp_chk fun _ => zp_chk fun _ => zp_chk fun _ => zp_chk fun _ => zp_chk fun _ => ?_
    generalize hS : (zx_up (zx_up (zx_up (zx_up (zx_up (zx_up μ 92 (24 * t + L) k) 93 (24 * t + L) x) 94 (24 * t + L) (-1)) 95 (24 * t + L) (-1)) 96 (24 * t + L) (μ 82 40)) 97 (24 * t + L) (μ 82 41)) = S
    have S82 : S 82 = μ 82 := by rw [← hS]; iterate 6 rw [zu_other (by decide)]
    have S102 : S 102 = μ 102 := by rw [← hS]; iterate 6 rw [zu_other (by decide)]
    have S94 : S 94 = zu (μ 94) (24 * t + L) (-1) := by
      rw [← hS]
      iterate 3 rw [zu_other (by decide)]
      rw [zx_up_same]
      iterate 2 rw [zu_other (by decide)]
    have S95 : S 95 = zu (μ 95) (24 * t + L) (-1) := by
      rw [← hS]
      iterate 2 rw [zu_other (by decide)]
      rw [zx_up_same]
      iterate 3 rw [zu_other (by decide)]
    clear hS
    have tbS : tb S = 24 * t := by unfold tb; rw [S82, h39, zo_n (by omega)]
    refine zp_bind (zp_mono (p_M_lead1 (lo := lo) (by rw [S82, h39]; exact ⟨(zo_le (k := 0) (j := t) (by omega) (by omega)).mpr (Nat.zero_le _), (zo_lt (k := t) (j := 4) (by omega) (by omega)).mpr ht⟩) (by rw [S102, S82]; exact hc)) fun r9 fl => ?_)
    have e39 : r9 82 39 = Int32.ofNat t := by rw [fl.ff 39 (by decide), S82]; exact h39
    have e102 : r9 102 = μ 102 := by rw [fl.fr 102 (by decide) (by decide) (by decide), S102]
    have n2 : 2 * (24 * t + L - 24 * t) ∉ lo := fun q => by have := hb _ q; omega
    have n3 : 2 * (24 * t + L - 24 * t) + 1 ∉ lo := fun q => by have := hb _ q; omega
    have r94 : RWL t L 0 (Int32.ofNat L) lo (μ 94) (r9 94) := by
      refine ⟨?_, fun j hj => ⟨fun c => ?_, fun c => ?_⟩⟩
      · rw [fl.b4, tbS, if_neg (fun q => n2 q.2), S94, zu_eq]
      · rw [Nat.add_zero] at c
        rw [fl.b4, tbS, if_pos c]
      · rw [Nat.add_zero] at c
        rw [fl.b4, tbS, if_neg c, S94, zu_ne hj]
    have r95 : RWL t L 1 (Int32.ofNat L) lo (μ 95) (r9 95) := by
      refine ⟨?_, fun j hj => ⟨fun c => ?_, fun c => ?_⟩⟩
      · rw [fl.b5, tbS, if_neg (fun q => n3 q.2), S95, zu_eq]
      · rw [fl.b5, tbS, if_pos c]
      · rw [fl.b5, tbS, if_neg c, S95, zu_ne hj]
    rw [e39, zo_n (m := t) (by omega)]
    refine zp_chk fun _ => zp_chk fun _ => zp_ite (fun k13 => zp_some ⟨?_, ?_, Or.inl ⟨k13, ?_, ?_⟩⟩) fun k13 => ?_
    · dsimp only; rw [zu_other (by decide)]; exact r94
    · dsimp only; rw [zu_other (by decide)]; exact r95
    · dsimp only; rw [zu_other (by decide)]; exact fl.op
    · dsimp only; rw [zu_other (by decide)]; exact e102
    · unfold zf_M_wayOf
      have e2 : 2 * Int32.ofNat L + 0 = Int32.ofNat (2 * L) := zo_two (p := 0) (by omega) (by omega)
      rw [e2, zo_n (by omega)]
      refine zp_bind (zp_chk fun _ => zp_some (zp_some ⟨?_, ?_, Or.inr ⟨k13, ?_, ?_, fun j hj => ?_⟩⟩))
      · dsimp only; rw [zu_other (by decide), zu_other (by decide), zu_other (by decide)]; exact r94
      · dsimp only; rw [zu_other (by decide), zu_other (by decide), zu_other (by decide)]; exact r95
      · dsimp only; rw [zx_up_same, zu_eq]
      · dsimp only; rw [zu_other (by decide), zx_up_same, zu_eq]
      · dsimp only; rw [zu_other (by decide), zx_up_same, zu_ne hj, zu_other (by decide), e102]
  · exfalso
    have d' : Int32.ofNat L = 24 := Classical.not_not.mp d
    have := zo_inj (k := L) (j := 24) (by omega) (by omega) d'
    omega
def SET (kd : Nat → Int32) (L : Nat) (n o : Int32) (l : List Nat) : Prop := ∀ s, s < 24 → (((bit n s ∧ kd s ≠ 13) ↔ 2 * s ∈ l) ∧ (bit o s ↔ 2 * s + 1 ∈ l) ∧ (bit n s → s < L) ∧ (bit o s → s < L ∧ (kd s = 5 ∨ kd s = 6)))
theorem SET.congr {kd kd' : Nat → Int32} {L L' : Nat} {n o : Int32} {l : List Nat} (h : SET kd L n o l) (hl : L ≤ L') (e : ∀ s, s < L → kd' s = kd s) : SET kd' L' n o l := by
  intro s hs
  obtain ⟨a, b, c, d⟩ := h s hs
  refine ⟨⟨fun q => ?_, fun q => ?_⟩, b, fun q => by have := c q; omega, fun q => ⟨by have := (d q).1; omega, by rw [e s (d q).1]; exact (d q).2⟩⟩
  · rw [e s (c q.1)] at q; exact a.mp q
  · have w := a.mpr q
    exact ⟨w.1, by rw [e s (c w.1)]; exact w.2⟩
theorem SET.empty {kd : Nat → Int32} {L : Nat} : SET kd L 0 0 [] := by
  intro s hs
  have z := bit_zero hs
  exact ⟨⟨fun q => absurd q.1 z, fun q => absurd q List.not_mem_nil⟩, ⟨fun q => absurd q z, fun q => absurd q List.not_mem_nil⟩, fun q => absurd q z, fun q => absurd q z⟩
theorem SET.new {kd : Nat → Int32} {L : Nat} (hL : L < 24) : SET kd (L + 1) (zJ_shl 1 (Int32.ofNat L)) 0 (if kd L = 13 then [] else [2 * L]) := by
  intro s hs
  have z := bit_zero hs
  have b := bit_shl hL hs
  refine ⟨?_, ?_, fun q => by have := b.mp q; omega, fun q => absurd q z⟩
  · by_cases e : kd L = 13
    · rw [if_pos e]
      refine ⟨fun q => ?_, fun q => absurd q List.not_mem_nil⟩
      have := b.mp q.1
      rw [this] at q
      exact absurd e q.2
    · rw [if_neg e, List.mem_singleton]
      refine ⟨fun q => by have := b.mp q.1; omega, fun q => ?_⟩
      have es : s = L := by omega
      exact ⟨b.mpr es, by rw [es]; exact e⟩
  · refine ⟨fun q => absurd q z, fun q => ?_⟩
    by_cases e : kd L = 13
    · rw [if_pos e] at q; exact absurd q List.not_mem_nil
    · rw [if_neg e, List.mem_singleton] at q; omega
theorem SET.cat {kd : Nat → Int32} {L : Nat} {n o n' o' : Int32} {l l' : List Nat} (h : SET kd L n o l) (h' : SET kd L n' o' l') : SET kd L (n ||| n') (o ||| o') (l' ++ l) := by
  intro s hs
  obtain ⟨a, b, c, d⟩ := h s hs
  obtain ⟨a', b', c', d'⟩ := h' s hs
  rw [bit_or hs, bit_or hs, List.mem_append, List.mem_append]
  refine ⟨⟨?_, ?_⟩, ⟨?_, ?_⟩, ?_, ?_⟩
  · rintro ⟨q | q, k⟩
    · exact Or.inr (a.mp ⟨q, k⟩)
    · exact Or.inl (a'.mp ⟨q, k⟩)
  · rintro (q | q)
    · have := a'.mpr q; exact ⟨Or.inr this.1, this.2⟩
    · have := a.mpr q; exact ⟨Or.inl this.1, this.2⟩
  · rintro (q | q)
    · exact Or.inr (b.mp q)
    · exact Or.inl (b'.mp q)
  · rintro (q | q)
    · exact Or.inr (b'.mpr q)
    · exact Or.inl (b.mpr q)
  · rintro (q | q)
    · exact c q
    · exact c' q
  · rintro (q | q)
    · exact d q
    · exact d' q
theorem SET.side {kd : Nat → Int32} {L m : Nat} (hm : m < L) (hL : L ≤ 24) (hk : kd m = 5 ∨ kd m = 6) : SET kd L 0 (zJ_shl 1 (Int32.ofNat m)) [2 * m + 1] := by
  intro s hs
  have z := bit_zero hs
  have b := bit_shl (k := m) (by omega) hs
  refine ⟨⟨fun q => absurd q.1 z, fun q => ?_⟩, ⟨fun q => ?_, fun q => ?_⟩, fun q => absurd q z, fun q => ?_⟩
  · rw [List.mem_singleton] at q; omega
  · rw [List.mem_singleton]; have := b.mp q; omega
  · rw [List.mem_singleton] at q
    exact b.mpr (by omega)
  · have := b.mp q
    rw [this]
    exact ⟨hm, hk⟩
