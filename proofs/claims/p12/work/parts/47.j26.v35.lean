-- both answer alike
set_option maxRecDepth 2000
def NX3 (c : Nat → Nat) (ws : Nat → Nat → Int64) (ρ : zS) (τ : zT) : Prop :=
  (∀ s, s < 3 → c s ≤ cap s ∧ ρ 4 s = Int32.ofNat (c s)) ∧ ρ 18 3 = Int32.ofNat (c 0 + c 1 + c 2) ∧
  (∀ i, i < c 0 + c 1 + c 2 → ∃ s k, s < 3 ∧ k < c s ∧ ρ 20 i = Int32.ofNat s ∧ ρ 21 i = Int32.ofNat k ∧ τ 19 i = ws s k) ∧
  (∀ s k, s < 3 → k < c s → ∃ i, i < c 0 + c 1 + c 2 ∧ ρ 20 i = Int32.ofNat s ∧ ρ 21 i = Int32.ofNat k ∧ τ 19 i = ws s k) ∧
  (∀ i j, i < c 0 + c 1 + c 2 → j < c 0 + c 1 + c 2 → τ 19 i = τ 19 j → i = j)
def NM3 (c : Nat → Nat) (ws : Nat → Nat → Int64) (μ : zS) : Prop := ∀ s, s < 3 → c s ≤ cap s ∧ μ 82 (15 + s) = Int32.ofNat (c s) ∧ ∀ k, k < c s → Nm μ (bs s + k) (ws s k)
theorem NSX.n3 {c : Nat → Nat} {ws : Nat → Nat → Int64} {nv : Nat} {wv : Nat → Int64} {ρ : zS} {τ : zT} (h : NSX c ws nv wv ρ τ) : NX3 c ws ρ τ := ⟨h.1, h.2.1, h.2.2.1, h.2.2.2.1, h.2.2.2.2.1⟩
theorem NX3.to {c : Nat → Nat} {ws : Nat → Nat → Int64} {wv : Nat → Int64} {ρ : zS} {τ : zT} (h : NX3 c ws ρ τ) (h5 : ρ 18 5 = 0) : NNX c ws 0 wv ρ τ := ⟨⟨h.1, h.2.1, h.2.2.1, h.2.2.2.1, h.2.2.2.2, by omega, h5, fun k hk => absurd hk (Nat.not_lt_zero _)⟩, fun j k hj => absurd hj (Nat.not_lt_zero _), fun s k j _ _ hj => absurd hj (Nat.not_lt_zero _)⟩
theorem NM3.to {c : Nat → Nat} {ws : Nat → Nat → Int64} {wv : Nat → Int64} {μ : zS} (h : NM3 c ws μ) (h18 : μ 82 18 = 0) : NSM c ws 0 wv μ := ⟨h, by omega, h18, fun k hk => absurd hk (Nat.not_lt_zero _)⟩
theorem NX3.of {c : Nat → Nat} {ws : Nat → Nat → Int64} {ρ ρ' : zS} {τ τ' : zT} (h : NX3 c ws ρ τ) (e4 : ∀ s, s < 3 → ρ' 4 s = ρ 4 s) (e18 : ρ' 18 3 = ρ 18 3) (e20 : ρ' 20 = ρ 20) (e21 : ρ' 21 = ρ 21) (t19 : τ' 19 = τ 19) : NX3 c ws ρ' τ' := by
  unfold NX3 at *
  rw [e18, e20, e21, t19]
  exact ⟨fun s hs => ⟨(h.1 s hs).1, (e4 s hs).trans (h.1 s hs).2⟩, h.2⟩
theorem NM3.of {c : Nat → Nat} {ws : Nat → Nat → Int64} {μ ν : zS} (h : NM3 c ws μ) (e : ∀ i, (15 ≤ i ∧ i ≤ 17) → ν 82 i = μ 82 i) (e86 : ∀ p, p < 14 → ν 86 p = μ 86 p) (e85 : ∀ j, j < 84 → ν 85 j = μ 85 j) : NM3 c ws ν := by
  intro s hs
  obtain ⟨a1, a2, a3⟩ := h s hs
  refine ⟨a1, (e (15 + s) (by omega)).trans a2, fun k hk => ?_⟩
  have := bs_le hs a1 hk
  exact (a3 k hk).of (fun i hi => e85 _ (by omega)) (e86 _ (by omega))
theorem NX3.z {c : Nat → Nat} {ws : Nat → Nat → Int64} {ρ : zS} {τ : zT} (h : NX3 c ws ρ τ) : c 0 + c 1 + c 2 ≤ 14 := by
  have a := (h.1 0 (by decide)).1
  have b := (h.1 1 (by decide)).1
  have d := (h.1 2 (by decide)).1
  unfold cap at a b d
  simp at a b d
  omega
theorem NX3.inj {c : Nat → Nat} {ws : Nat → Nat → Int64} {ρ : zS} {τ : zT} (h : NX3 c ws ρ τ) {s s' k k' : Nat} (hs : s < 3) (hk : k < c s) (hs' : s' < 3) (hk' : k' < c s') (e : ws s k = ws s' k') : s = s' ∧ k = k' := by
  have z := h.z
  have m1 := (h.1 s hs).1
  have m2 := (h.1 s' hs').1
  have m3 := cap_le s
  have m4 := cap_le s'
  obtain ⟨i, i1, i2, i3, i4⟩ := h.2.2.2.1 s k hs hk
  obtain ⟨j, j1, j2, j3, j4⟩ := h.2.2.2.1 s' k' hs' hk'
  have ij := h.2.2.2.2 i j i1 j1 (by rw [i4, j4, e])
  subst ij
  exact ⟨zo_inj (by omega) (by omega) (i2.symm.trans j2), zo_inj (by omega) (by omega) (i3.symm.trans j3)⟩
theorem p_X_sortOf3 {c : Nat → Nat} {ws : Nat → Nat → Int64} {ρ : zS} {τ : zT} {N : Nat} {w : Int64} (h : NX3 c ws ρ τ) : zp (zf_Names_sortOf N ρ τ w) (fun r => (r = -1 ∧ ∀ s k, s < 3 → k < c s → ws s k ≠ w) ∨ (∃ s k, s < 3 ∧ k < c s ∧ ws s k = w ∧ r = Int32.ofNat s)) := by
  have z := h.z
  unfold zf_Names_sortOf
  have go : ∀ (n i : Nat), i ≤ c 0 + c 1 + c 2 → (∀ j, j < i → τ 19 j ≠ w) → zp (zb_Names_sortOf_2 N n ρ τ w (Int32.ofNat i)) (fun r => (r = -1 ∧ ∀ s k, s < 3 → k < c s → ws s k ≠ w) ∨ (∃ s k, s < 3 ∧ k < c s ∧ ws s k = w ∧ r = Int32.ofNat s)) := by
    intro n
    induction n with
    | zero => intro _ _ _; exact zp_none
    | succ n ih =>
      intro i hi hj
      rw [zb_Names_sortOf_2, h.2.1]
      have no : c 0 + c 1 + c 2 ≤ i → (∀ s k, s < 3 → k < c s → ws s k ≠ w) := by
        intro q s k hs hk e
        obtain ⟨j, j1, j2, j3, j4⟩ := h.2.2.2.1 s k hs hk
        exact hj j (by omega) (j4.trans e)
      refine zp_ite (fun q => zp_some (Or.inl ⟨rfl, no ?_⟩)) fun q => zp_ite (fun q2 => zp_some (Or.inl ⟨rfl, no ?_⟩)) fun q2 => zp_chk fun _ => ?_
      · exact (zo_le (by omega) (by omega)).mp q
      · have := (zo_le (k := 14) (j := i) (by omega) (by omega)).mp q2
        omega
      · have lt : i < c 0 + c 1 + c 2 := by
          rw [zo_le (by omega) (by omega)] at q
          omega
        rw [zo_n (by omega)]
        refine zp_ite (fun d => ?_) fun d => zp_chk fun _ => zp_some (Or.inr ?_)
        · rw [zo_1 (by omega)]
          refine ih (i + 1) (by omega) fun j hj' => ?_
          by_cases e : j = i
          · rw [e]; exact d
          · exact hj j (by omega)
        · obtain ⟨s, k, a1, a2, a3, a4, a5⟩ := h.2.2.1 i lt
          exact ⟨s, k, a1, a2, a5.symm.trans (Classical.not_not.mp d), a3⟩
  exact go N 0 (Nat.zero_le _) fun j hj => absurd hj (Nat.not_lt_zero _)
theorem p_X_numberOf3 {c : Nat → Nat} {ws : Nat → Nat → Int64} {ρ : zS} {τ : zT} {N s : Nat} {w : Int64} (h : NX3 c ws ρ τ) (hs : s < 3) : zp (zf_Names_numberOf N ρ τ w (Int32.ofNat s)) (fun r => LK (c s) (ws s) w r) := by
  have z := h.z
  unfold zf_Names_numberOf
  have go : ∀ (n i : Nat), i ≤ c 0 + c 1 + c 2 → (∀ j, j < i → ¬ (τ 19 j = w ∧ ρ 20 j = Int32.ofNat s)) → zp (zb_Names_numberOf_3 N n ρ τ w (Int32.ofNat s) (Int32.ofNat i)) (fun r => LK (c s) (ws s) w r) := by
    intro n
    induction n with
    | zero => intro _ _ _; exact zp_none
    | succ n ih =>
      intro i hi hj
      rw [zb_Names_numberOf_3, h.2.1]
      have no : c 0 + c 1 + c 2 ≤ i → (∀ k, k < c s → ws s k ≠ w) := by
        intro q k hk e
        obtain ⟨j, j1, j2, j3, j4⟩ := h.2.2.2.1 s k hs hk
        exact hj j (by omega) ⟨j4.trans e, j2⟩
      refine zp_ite (fun q => zp_some (Or.inl ⟨rfl, no ?_⟩)) fun q => zp_ite (fun q2 => zp_some (Or.inl ⟨rfl, no ?_⟩)) fun q2 => zp_chk fun _ => ?_
      · exact (zo_le (by omega) (by omega)).mp q
      · have := (zo_le (k := 14) (j := i) (by omega) (by omega)).mp q2
        omega
      · have lt : i < c 0 + c 1 + c 2 := by
          rw [zo_le (by omega) (by omega)] at q
          omega
        rw [zo_n (by omega)]
        have on : ¬ (τ 19 i = w ∧ ρ 20 i = Int32.ofNat s) → zp (zb_Names_numberOf_50 (zb_Names_numberOf_3 N n) N ρ τ w (Int32.ofNat s) (Int32.ofNat i)) (fun r => LK (c s) (ws s) w r) := by
          intro d
          unfold zb_Names_numberOf_50
          rw [zo_1 (by omega)]
          refine ih (i + 1) (by omega) fun j hj' => ?_
          by_cases e : j = i
          · rw [e]; exact d
          · exact hj j (by omega)
        refine zp_ite (fun d => on fun x => d x.1) fun d => zp_chk fun _ => zp_ite (fun d2 => on fun x => d2 x.2) fun d2 => zp_chk fun _ => zp_some (Or.inr ?_)
        obtain ⟨s', k, a1, a2, a3, a4, a5⟩ := h.2.2.1 i lt
        have es : s' = s := zo_inj (by omega) (by omega) (a3.symm.trans (Classical.not_not.mp d2))
        subst es
        have ew := a5.symm.trans (Classical.not_not.mp d)
        exact ⟨k, a2, a4, ew, fun j hj' e => (h.inj hs hj' hs a2 (e.trans ew.symm)).2⟩
  exact go N 0 (Nat.zero_le _) fun j hj => absurd hj (Nat.not_lt_zero _)
theorem p_told {T : TS} {b N N' : Nat} {c : Nat → Nat} {ws : Nat → Nat → Int64} {ρ : zS} {τ : zT} (h : NX3 c ws ρ τ) (w : Int64) (hw : w = T.2.2.1 b) (hk : T.1 b = 3) : zp (zf_Names_sortOf N ρ τ w) (fun r => (r = -1 ∧ (∀ s k, s < 3 → k < c s → ws s k ≠ w) ∧ ∀ μ, SM T b μ → NM3 c ws μ → zp (zf_M_isTold N' μ) (fun u => u = 0)) ∨ (r ≠ -1 ∧ ∀ μ, SM T b μ → NM3 c ws μ → zp (zf_M_isTold N' μ) (fun u => u = 1))) := by
  have z := h.z
  obtain ⟨f, hf⟩ := LK.ex (n := c 0) (wo := ws 0) (fun j k hj hk e => (h.inj (by decide) hj (by decide) hk e).2) w
  obtain ⟨l, hl⟩ := LK.ex (n := c 1) (wo := ws 1) (fun j k hj hk e => (h.inj (by decide) hj (by decide) hk e).2) w
  obtain ⟨t, ht⟩ := LK.ex (n := c 2) (wo := ws 2) (fun j k hj hk e => (h.inj (by decide) hj (by decide) hk e).2) w
  have ref : ∀ μ, SM T b μ → NM3 c ws μ → zp (zf_M_isTold N' μ) (TldO f l t) := by
    intro μ sm nm
    have cur : Cur μ w := by rw [hw]; exact sm.cur hk
    have a0 := nm 0 (by decide)
    have a1 := nm 1 (by decide)
    have a2 := nm 2 (by decide)
    have c0 := cap_le 0
    have c1 := cap_le 1
    have c2 := cap_le 2
    unfold zf_M_isTold zb_M_isTold_24 zf_M_fieldHere zf_M_lockHere zf_M_threadHere
    rw [show μ 82 15 = Int32.ofNat (c 0) from a0.2.1, show μ 82 16 = Int32.ofNat (c 1) from a1.2.1, show μ 82 17 = Int32.ofNat (c 2) from a2.2.1]
    refine zp_bind (zp_bind (zp_mono (p_M_findK (fr := 0) (by omega) (fun k hk => a0.2.2 k hk) cur hf) fun r1 e1 => zp_some (zp_ite (fun d => zp_some (Or.inr ⟨rfl, fun x => d (e1.trans x.1)⟩)) fun d => zp_bind (zp_bind (zp_mono (p_M_findK (fr := 6) (by omega) (fun k hk => a1.2.2 k hk) cur hl) fun r2 e2 => zp_some (zp_ite (fun d2 => zp_some (Or.inr ⟨rfl, fun x => d2 (e2.trans x.2.1)⟩)) fun d2 => zp_bind (zp_bind (zp_mono (p_M_findK (fr := 10) (by omega) (fun k hk => a2.2.2 k hk) cur ht) fun r3 e3 => zp_some (zp_ite (fun d3 => zp_some (Or.inl ⟨rfl, e1.symm.trans (Classical.not_not.mp d), e2.symm.trans (Classical.not_not.mp d2), e3.symm.trans d3⟩)) fun d3 => zp_some (Or.inr ⟨rfl, fun x => d3 (e3.trans x.2.2)⟩))))))))))
  refine zp_mono (p_X_sortOf3 h) fun r hr => ?_
  rcases hr with ⟨e, no⟩ | ⟨s, k, hs, hk', e, er⟩
  · refine Or.inl ⟨e, no, fun μ sm nm => zp_mono (ref μ sm nm) fun u hu => ?_⟩
    rcases hu with hu | hu
    · exact hu.1
    · exact absurd ⟨(hf.no (by omega)).mpr fun k hk => no 0 k (by decide) hk, (hl.no (by omega)).mpr fun k hk => no 1 k (by decide) hk, (ht.no (by omega)).mpr fun k hk => no 2 k (by decide) hk⟩ hu.2
  · refine Or.inr ⟨by rw [er]; exact zo_ne (by omega), fun μ sm nm => zp_mono (ref μ sm nm) fun u hu => ?_⟩
    rcases hu with hu | hu
    · exfalso
      match s, hs, hk', e with
      | 0, hs, hk', e => exact (hf.no (by omega)).mp hu.2.1 k hk' e
      | 1, hs, hk', e => exact (hl.no (by omega)).mp hu.2.2.1 k hk' e
      | 2, hs, hk', e => exact (ht.no (by omega)).mp hu.2.2.2 k hk' e
    · exact hu.1
