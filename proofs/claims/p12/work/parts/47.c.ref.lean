-- every method answers: totality within bounds, by invariants of the two states
set_option maxRecDepth 2000
/-! PUTTING A STATE INTO THE TABLE -/
def RI (σ : zS) : Prop :=
  (0 ≤ σ 82 52 ∧ σ 82 52 ≤ 4000) ∧
  (σ 82 51 = 0 ∨ σ 82 51 = 4000) ∧
  (∀ h : Nat, h < 8192 → σ 109 h = -1 ∨ (σ 82 51 ≤ σ 109 h ∧ σ 109 h < σ 82 51 + σ 82 52)) ∧
  (∀ s : Int32, σ 82 51 ≤ s → s < σ 82 51 + σ 82 52 → σ 110 s.toNatClampNeg = -1 ∨ (σ 82 51 ≤ σ 110 s.toNatClampNeg ∧ σ 110 s.toNatClampNeg < s)) ∧
  (∀ s : Int32, σ 82 51 ≤ s → s < σ 82 51 + σ 82 52 → NW (fun i => σ 108 (40 * s.toNatClampNeg + i)) (σ 90) (σ 93) (σ 82 17))
theorem RI.fo {σ : zS} (h : RI σ) : 0 ≤ σ 82 52 ∧ σ 82 52 ≤ 4000 := h.1
theorem RI.fm {σ : zS} (h : RI σ) : σ 82 51 = 0 ∨ σ 82 51 = 4000 := h.2.1
theorem RI.hd {σ : zS} (h : RI σ) : ∀ h : Nat, h < 8192 → σ 109 h = -1 ∨ (σ 82 51 ≤ σ 109 h ∧ σ 109 h < σ 82 51 + σ 82 52) := h.2.2.1
theorem RI.af {σ : zS} (h : RI σ) : ∀ s : Int32, σ 82 51 ≤ s → s < σ 82 51 + σ 82 52 → σ 110 s.toNatClampNeg = -1 ∨ (σ 82 51 ≤ σ 110 s.toNatClampNeg ∧ σ 110 s.toNatClampNeg < s) := h.2.2.2.1
theorem RI.rw {σ : zS} (h : RI σ) : ∀ s : Int32, σ 82 51 ≤ s → s < σ 82 51 + σ 82 52 → NW (fun i => σ 108 (40 * s.toNatClampNeg + i)) (σ 90) (σ 93) (σ 82 17) := h.2.2.2.2
def PT (σ r : zS) (v : Int32) : Prop :=
  (RI r) ∧
  (∀ q, q ≠ 82 → q ≠ 108 → q ≠ 109 → q ≠ 110 → r q = σ q) ∧
  (∀ i, i ≠ 52 → r 82 i = σ 82 i) ∧
  (∀ i : Nat, i < 40 * (σ 82 51).toNatClampNeg → r 108 i = σ 108 i) ∧
  (σ 82 52 ≤ r 82 52 ∧ r 82 52 ≤ σ 82 52 + 1) ∧
  (v = -1 ∨ (σ 82 51 ≤ v ∧ v < σ 82 51 + r 82 52)) ∧
  (r 82 52 ≠ σ 82 52 → v = σ 82 51 + σ 82 52)
theorem PT.ri {σ r : zS} {v : Int32} (h : PT σ r v) : RI r := h.1
theorem PT.fr {σ r : zS} {v : Int32} (h : PT σ r v) : ∀ q, q ≠ 82 → q ≠ 108 → q ≠ 109 → q ≠ 110 → r q = σ q := h.2.1
theorem PT.ff {σ r : zS} {v : Int32} (h : PT σ r v) : ∀ i, i ≠ 52 → r 82 i = σ 82 i := h.2.2.1
theorem PT.lo {σ r : zS} {v : Int32} (h : PT σ r v) : ∀ i : Nat, i < 40 * (σ 82 51).toNatClampNeg → r 108 i = σ 108 i := h.2.2.2.1
theorem PT.fo {σ r : zS} {v : Int32} (h : PT σ r v) : σ 82 52 ≤ r 82 52 ∧ r 82 52 ≤ σ 82 52 + 1 := h.2.2.2.2.1
theorem PT.vl {σ r : zS} {v : Int32} (h : PT σ r v) : v = -1 ∨ (σ 82 51 ≤ v ∧ v < σ 82 51 + r 82 52) := h.2.2.2.2.2.1
theorem PT.nw {σ r : zS} {v : Int32} (h : PT σ r v) : r 82 52 ≠ σ 82 52 → v = σ 82 51 + σ 82 52 := h.2.2.2.2.2.2
theorem PT.same {σ : zS} {v : Int32} (h : RI σ) (hv : v = -1 ∨ (σ 82 51 ≤ v ∧ v < σ 82 51 + σ 82 52)) : PT σ σ v :=
  ⟨h, fun _ _ _ _ _ => rfl, fun _ _ => rfl, fun _ _ => rfl, ⟨Int32.le_refl _, by have := h.fo; (first | with_reducible assumption | omega | grind)⟩, hv, fun q => absurd rfl q⟩
theorem z40r {a b : Int32} (ha : 0 ≤ a ∧ a < 8000) (hb : 0 ≤ b ∧ b < 40) : 0 ≤ 40 * a + b ∧ 40 * a + b < 320000 := by grind
theorem zmd_mono {a b : Int32} {n : Nat} (h : a < b) (hn : zmd b < n + 1) : zmd a < n := by
  have h1 := Int32.lt_iff_toInt_lt.mp h
  have h2 := z_lo a
  unfold zmd at hn ⊢
  omega
theorem q_b_M_put_145 {N : Nat} {σ : zS} {v1 v2 : Int32} {Q : Int32 × zS → Prop} (hR : RI σ) (hst : ∀ t, σ 90 t ≤ 24) (hm : σ 82 17 ≤ 4) (hw : NW (σ 107) (σ 90) (σ 93) (σ 82 17)) (h1 : 0 ≤ v1 ∧ v1 < 8192) (h2 : v2 = σ 82 51 + σ 82 52) (h4 : ¬ σ 82 52 = 4000) (hQ : ∀ r, PT σ r.2 r.1 → Q r) : ∀ (n : Nat) (ρ : zS) (v3 : Int32), (∀ q, q ≠ 108 → ρ q = σ q) → (∀ i, (i < 40 * v2.toNatClampNeg ∨ 40 * v2.toNatClampNeg + 40 ≤ i) → ρ 108 i = σ 108 i) → (∀ i, i < v3.toNatClampNeg → ρ 108 (40 * v2.toNatClampNeg + i) = zJ_byte (zJ_byte (σ 107 i))) → 0 ≤ v3 → v3 ≤ 40 → zmu v3 < n → zq (zb_M_put_145 N n ρ v1 v2 v3) Q := by
  have fo := hR.fo
  have fm := hR.fm
  have v0 : 0 ≤ v2 ∧ v2 < 8000 := by (first | with_reducible assumption | omega | grind)
  intro n
  induction n with
  | zero => intro _ _ _ _ _ _ _ hn; exact absurd hn (Nat.not_lt_zero _)
  | succ n ih =>
    intro ρ v3 hf ho hk h0 h40 hn
    rw [zb_M_put_145]
    refine zq_ite (fun c1 => ?_) fun c1 => ?_
    · have e : v3 = 40 := by (first | with_reducible assumption | omega | grind)
      subst e
      refine zq_chk h1 fun _ => ?_
      refine zq_chk v0 fun _ => ?_
      refine zq_chk h1 fun _ => ?_
      have e82 := hf 82 (by decide); have e109 := hf 109 (by decide); have e110 := hf 110 (by decide)
      refine hQ _ ?_
      show PT σ (zx_up (zx_up (zx_up ρ 110 v2.toNatClampNeg (ρ 109 v1.toNatClampNeg)) 109 v1.toNatClampNeg v2) 82 52 (ρ 82 52 + 1)) v2
      have r82 : ∀ i, i ≠ 52 → (zx_up (zx_up (zx_up ρ 110 v2.toNatClampNeg (ρ 109 v1.toNatClampNeg)) 109 v1.toNatClampNeg v2) 82 52 (ρ 82 52 + 1)) 82 i = σ 82 i := by
        intro i hi
        rw [zx_up_same, zu_ne hi, zu_other (by decide), zu_other (by decide), e82]
      have r52 : (zx_up (zx_up (zx_up ρ 110 v2.toNatClampNeg (ρ 109 v1.toNatClampNeg)) 109 v1.toNatClampNeg v2) 82 52 (ρ 82 52 + 1)) 82 52 = σ 82 52 + 1 := by
        rw [zx_up_same, zu_eq, e82]
      have rr : ∀ q, q ≠ 82 → q ≠ 109 → q ≠ 110 → (zx_up (zx_up (zx_up ρ 110 v2.toNatClampNeg (ρ 109 v1.toNatClampNeg)) 109 v1.toNatClampNeg v2) 82 52 (ρ 82 52 + 1)) q = ρ q := by
        intro q a b c
        rw [zu_other a, zu_other b, zu_other c]
      have r109 : (zx_up (zx_up (zx_up ρ 110 v2.toNatClampNeg (ρ 109 v1.toNatClampNeg)) 109 v1.toNatClampNeg v2) 82 52 (ρ 82 52 + 1)) 109 = zu (σ 109) v1.toNatClampNeg v2 := by
        rw [zu_other (by decide), zx_up_same, zu_other (by decide), e109]
      have r110 : (zx_up (zx_up (zx_up ρ 110 v2.toNatClampNeg (ρ 109 v1.toNatClampNeg)) 109 v1.toNatClampNeg v2) 82 52 (ρ 82 52 + 1)) 110 = zu (σ 110) v2.toNatClampNeg (σ 109 v1.toNatClampNeg) := by
        rw [zu_other (by decide), zu_other (by decide), zx_up_same, e110, e109]
      generalize zx_up (zx_up (zx_up ρ 110 v2.toNatClampNeg (ρ 109 v1.toNatClampNeg)) 109 v1.toNatClampNeg v2) 82 52 (ρ 82 52 + 1) = R at *
      have q51 := r82 51 (by decide)
      have q108 := rr 108 (by decide) (by decide) (by decide)
      have q90 := (rr 90 (by decide) (by decide) (by decide)).trans (hf 90 (by decide))
      have q17 := r82 17 (by decide)
      have q93 := (rr 93 (by decide) (by decide) (by decide)).trans (hf 93 (by decide))
      refine ⟨⟨?_, ?_, ?_, ?_, ?_⟩, ?_, r82, ?_, ?_, ?_, ?_⟩
      · rw [r52]; (first | with_reducible assumption | omega | grind)
      · rw [q51]; exact fm
      · intro h hh
        rw [r109, q51, r52]
        have := hR.hd h hh
        by_cases q : h = v1.toNatClampNeg
        · rw [q, zu_eq]; right; (first | with_reducible assumption | omega | grind)
        · rw [zu_ne q]; grind
      · intro s a b
        rw [q51] at a b
        rw [r52] at b
        rw [r110, q51]
        by_cases q : s = v2
        · rw [q, zu_eq]
          have := hR.hd v1.toNatClampNeg (z_natlt (b := 8192) h1.1 h1.2)
          grind
        · have hs : s < σ 82 51 + σ 82 52 := by (first | with_reducible assumption | omega | grind)
          rw [zu_ne (fun e => q (z_inj (by (first | with_reducible assumption | omega | grind)) v0.1 e))]
          exact hR.af s a hs
      · intro s a b
        rw [q51] at a b
        rw [r52] at b
        rw [q90, q93, q17, q108]
        by_cases q : s = v2
        · rw [q]
          exact NW.bytes hm hst hk hw
        · have hs : s < σ 82 51 + σ 82 52 := by (first | with_reducible assumption | omega | grind)
          refine NW.congr ?_ (hR.rw s a hs)
          intro i hi
          have hne : s.toNatClampNeg ≠ v2.toNatClampNeg := fun e => q (z_inj (by (first | with_reducible assumption | omega | grind)) v0.1 e)
          exact ho _ (by omega)
      · intro q a b c d
        rw [rr q a c d]; exact hf q b
      · intro i hi
        rw [q108]
        refine ho i (Or.inl ?_)
        have : (σ 82 51).toNatClampNeg ≤ v2.toNatClampNeg := by
          have h1 := z_nat (a := σ 82 51) (by (first | with_reducible assumption | omega | grind))
          have h2' := z_nat v0.1
          have h3 : (σ 82 51).toInt ≤ v2.toInt := Int32.le_iff_toInt_le.mp (by (first | with_reducible assumption | omega | grind))
          omega
        omega
      · rw [r52]; (first | with_reducible assumption | omega | grind)
      · rw [r52]; right; (first | with_reducible assumption | omega | grind)
      · intro _; exact h2
    · have hv : 0 ≤ v3 ∧ v3 < 40 := by (first | with_reducible assumption | omega | grind)
      refine zq_chk hv fun c2 => ?_
      refine zq_chk (z40r v0 hv) fun c3 => ?_
      have e40 := z40 v0 hv
      have n3 : v3.toNatClampNeg < 40 := z_natlt (b := 40) hv.1 hv.2
      refine ih _ (v3 + 1) ?_ ?_ ?_ (by (first | with_reducible assumption | omega | grind)) (by (first | with_reducible assumption | omega | grind)) (zmu_up c1 hn)
      · intro q hq; rw [zu_other hq]; exact hf q hq
      · intro i hi
        rw [zx_up_same, zu_ne (by rw [e40]; omega)]
        exact ho i hi
      · intro i hi
        rw [z_succn h0 hv.2] at hi
        rw [zx_up_same, e40, hf 107 (by decide)]
        by_cases q : i = v3.toNatClampNeg
        · rw [q, zu_eq]
        · rw [zu_ne (by omega)]; exact hk i (by omega)
theorem q_f_M_put {N : Nat} (hN : zBig ≤ N) {σ : zS} {Q : Int32 × zS → Prop} (hR : RI σ) (hst : ∀ t, σ 90 t ≤ 24) (hm : σ 82 17 ≤ 4) (hw : NW (σ 107) (σ 90) (σ 93) (σ 82 17)) (hQ : ∀ r, PT σ r.2 r.1 → Q r) : zq (zf_M_put N σ) Q := by
  have fo := hR.fo
  have fm := hR.fm
  have H60 : ∀ (k50 : zS → Int32 → Int32 → Option (Int32 × zS)) (v1 v2 : Int32), zq (k50 σ v1 (σ 110 v2.toNatClampNeg)) Q → (σ 82 51 ≤ v2 ∧ v2 < σ 82 51 + σ 82 52) → ∀ (n : Nat) (v3 v4 : Int32), 0 ≤ v4 → zmu v4 < n → zq (zb_M_put_60 k50 N n σ v1 v2 v3 v4) Q := by
    intro k50 v1 v2 hk h2 n
    have v0 : 0 ≤ v2 ∧ v2 < 8000 := by (first | with_reducible assumption | omega | grind)
    have out : ∀ v3, zq (zb_M_put_105 k50 N σ v1 v2 v3) Q := by
      intro v3
      unfold zb_M_put_105
      refine zq_ite (fun c => ?_) fun c => ?_
      · exact zq_chk v0 fun _ => hk
      · exact hQ _ (PT.same hR (Or.inr h2))
    induction n with
    | zero => intro _ _ _ hn; exact absurd hn (Nat.not_lt_zero _)
    | succ n ih =>
      intro v3 v4 h0 hn
      rw [zb_M_put_60]
      refine zq_ite (fun c1 => out v3) fun c1 => ?_
      refine zq_ite (fun c2 => out v3) fun c2 => ?_
      have h40 : 0 ≤ v4 ∧ v4 < 40 := ⟨h0, Int32.not_le.mp c1⟩
      refine zq_chk (z40r v0 h40) fun c3 => ?_
      refine zq_chk h40 fun c4 => ?_
      refine zq_ite (fun c5 => ?_) fun c5 => ?_
      · exact ih 0 (v4 + 1) (by (first | with_reducible assumption | omega | grind)) (zmu_up c1 hn)
      · exact ih 1 (v4 + 1) (by (first | with_reducible assumption | omega | grind)) (zmu_up c1 hn)
  have H50 : ∀ (v1 : Int32), 0 ≤ v1 ∧ v1 < 8192 → ∀ (n : Nat) (v2 : Int32), (v2 = -1 ∨ (σ 82 51 ≤ v2 ∧ v2 < σ 82 51 + σ 82 52)) → zmd v2 < n → zq (zb_M_put_50 N n σ v1 v2) Q := by
    intro v1 h1 n
    induction n with
    | zero => intro _ _ hn; exact absurd hn (Nat.not_lt_zero _)
    | succ n ih =>
      intro v2 h2 hn
      rw [zb_M_put_50]
      refine zq_ite (fun c1 => ?_) fun c1 => ?_
      · refine zq_ite (fun c2 => ?_) fun c2 => ?_
        · exact q_b_M_put_145 hR hst hm hw h1 rfl c2 hQ N σ 0 (fun _ _ => rfl) (fun _ _ => rfl) (fun i hi => absurd hi (Nat.not_lt_zero _)) (by decide) (by decide) (zmu_lt hN _)
        · exact hQ _ (PT.same hR (Or.inl rfl))
      · have h2 := h2.resolve_left c1
        refine H60 _ v1 v2 ?_ h2 N 1 0 (by decide) (zmu_lt hN _)
        have := hR.af v2 h2.1 h2.2
        refine ih _ (by (first | with_reducible assumption | omega | grind)) (zmd_mono (b := v2) ?_ hn)
        (first | with_reducible assumption | omega | grind)
  have H5 : ∀ (n : Nat) (v1 v2 : Int32), 0 ≤ v2 → zmu v2 < n → zq (zb_M_put_5 N n σ v1 v2) Q := by
    intro n
    induction n with
    | zero => intro _ _ _ hn; exact absurd hn (Nat.not_lt_zero _)
    | succ n ih =>
      intro v1 v2 h0 hn
      rw [zb_M_put_5]
      refine zq_ite (fun c1 => ?_) fun c1 => ?_
      · have ha := z_and v1 8191 (by decide)
        refine zq_chk (by (first | with_reducible assumption | omega | grind)) fun c2 => ?_
        exact H50 _ c2 N _ (hR.hd _ (z_natlt (b := 8192) c2.1 c2.2)) (zmd_lt hN _)
      · refine zq_chk (by (first | with_reducible assumption | omega | grind)) fun c2 => ?_
        exact ih _ (v2 + 1) (by (first | with_reducible assumption | omega | grind)) (zmu_up c1 hn)
  exact H5 N 7 0 (by decide) (zmu_lt hN _)
/-! WHAT A RUN LEAVES -/
def PGJ (_σ0 σ : zS) : Prop := PG σ
def RR (σ : zS) : Prop :=
  (0 ≤ σ 82 54 ∧ σ 82 54 ≤ 4000) ∧
  (∀ s : Int32, 0 < s → s < σ 82 54 → 0 ≤ σ 111 s.toNatClampNeg ∧ σ 111 s.toNatClampNeg < s) ∧
  (0 ≤ σ 82 60 ∧ σ 82 60 ≤ 4000) ∧
  (∀ k : Int32, 0 ≤ k → k < σ 82 60 → 0 ≤ σ 115 k.toNatClampNeg ∧ σ 115 k.toNatClampNeg < σ 82 54) ∧
  (∀ i : Nat, i < 9216 → 0 ≤ σ 114 i ∧ σ 114 i ≤ σ 82 54) ∧
  (∀ s : Int32, 0 ≤ s → s < σ 82 54 → NW (fun i => σ 108 (40 * s.toNatClampNeg + i)) (σ 90) (σ 93) (σ 82 17))
theorem RR.st {σ : zS} (h : RR σ) : 0 ≤ σ 82 54 ∧ σ 82 54 ≤ 4000 := h.1
theorem RR.cf {σ : zS} (h : RR σ) : ∀ s : Int32, 0 < s → s < σ 82 54 → 0 ≤ σ 111 s.toNatClampNeg ∧ σ 111 s.toNatClampNeg < s := h.2.1
theorem RR.oc {σ : zS} (h : RR σ) : 0 ≤ σ 82 60 ∧ σ 82 60 ≤ 4000 := h.2.2.1
theorem RR.ou {σ : zS} (h : RR σ) : ∀ k : Int32, 0 ≤ k → k < σ 82 60 → 0 ≤ σ 115 k.toNatClampNeg ∧ σ 115 k.toNatClampNeg < σ 82 54 := h.2.2.2.1
theorem RR.ra {σ : zS} (h : RR σ) : ∀ i : Nat, i < 9216 → 0 ≤ σ 114 i ∧ σ 114 i ≤ σ 82 54 := h.2.2.2.2.1
theorem RR.rw {σ : zS} (h : RR σ) : ∀ s : Int32, 0 ≤ s → s < σ 82 54 → NW (fun i => σ 108 (40 * s.toNatClampNeg + i)) (σ 90) (σ 93) (σ 82 17) := h.2.2.2.2.2
def RJ (σ0 σ : zS) : Prop :=
  (PG σ) ∧
  (RR σ)
theorem RJ.pg {σ0 σ : zS} (h : RJ σ0 σ) : PG σ := h.1
theorem RJ.rr {σ0 σ : zS} (h : RJ σ0 σ) : RR σ := h.2
def RP (σ : zS) (s : Int32) : Prop :=
  (PG σ) ∧
  (RI σ) ∧
  (σ 82 51 = 0) ∧
  (∀ t : Int32, 0 < t → t < σ 82 52 → 0 ≤ σ 111 t.toNatClampNeg ∧ σ 111 t.toNatClampNeg < t) ∧
  (0 ≤ σ 82 60 ∧ σ 82 60 ≤ s) ∧
  (∀ k : Int32, 0 ≤ k → k < σ 82 60 → 0 ≤ σ 115 k.toNatClampNeg ∧ σ 115 k.toNatClampNeg < σ 82 52) ∧
  (∀ i : Nat, i < 9216 → 0 ≤ σ 114 i ∧ σ 114 i ≤ σ 82 52)
theorem RP.pg {σ : zS} {s : Int32} (h : RP σ s) : PG σ := h.1
theorem RP.ri {σ : zS} {s : Int32} (h : RP σ s) : RI σ := h.2.1
theorem RP.f0 {σ : zS} {s : Int32} (h : RP σ s) : σ 82 51 = 0 := h.2.2.1
theorem RP.cf {σ : zS} {s : Int32} (h : RP σ s) : ∀ t : Int32, 0 < t → t < σ 82 52 → 0 ≤ σ 111 t.toNatClampNeg ∧ σ 111 t.toNatClampNeg < t := h.2.2.2.1
theorem RP.oc {σ : zS} {s : Int32} (h : RP σ s) : 0 ≤ σ 82 60 ∧ σ 82 60 ≤ s := h.2.2.2.2.1
theorem RP.ou {σ : zS} {s : Int32} (h : RP σ s) : ∀ k : Int32, 0 ≤ k → k < σ 82 60 → 0 ≤ σ 115 k.toNatClampNeg ∧ σ 115 k.toNatClampNeg < σ 82 52 := h.2.2.2.2.2.1
theorem RP.ra {σ : zS} {s : Int32} (h : RP σ s) : ∀ i : Nat, i < 9216 → 0 ≤ σ 114 i ∧ σ 114 i ≤ σ 82 52 := h.2.2.2.2.2.2
def FQ (σ0 σ : zS) : Prop :=
  (∀ q, q < 107 → q ≠ 82 → σ q = σ0 q) ∧
  (∀ i, i ≠ 0 → i ≠ 51 → i ≠ 52 → i ≠ 53 → i ≠ 54 → i ≠ 60 → i ≠ 62 → σ 82 i = σ0 82 i)
theorem FQ.fr {σ0 σ : zS} (h : FQ σ0 σ) : ∀ q, q < 107 → q ≠ 82 → σ q = σ0 q := h.1
theorem FQ.ff {σ0 σ : zS} (h : FQ σ0 σ) : ∀ i, i ≠ 0 → i ≠ 51 → i ≠ 52 → i ≠ 53 → i ≠ 54 → i ≠ 60 → i ≠ 62 → σ 82 i = σ0 82 i := h.2
theorem FQ.refl (σ : zS) : FQ σ σ := ⟨fun _ _ _ => rfl, fun _ _ _ _ _ _ _ _ => rfl⟩
theorem FQ.up {σ0 σ : zS} {q i : Nat} {v : Int32} (hq : 107 ≤ q) (h : FQ σ0 σ) : FQ σ0 (zx_up σ q i v) :=
  ⟨fun p hp h82 => by rw [zu_other (by omega)]; exact h.fr p hp h82, fun j a b c d e f g => by rw [zu_other (by omega)]; exact h.ff j a b c d e f g⟩
theorem FQ.up82 {σ0 σ : zS} {i : Nat} {v : Int32} (hi : i = 0 ∨ i = 51 ∨ i = 52 ∨ i = 53 ∨ i = 54 ∨ i = 60 ∨ i = 62) (h : FQ σ0 σ) : FQ σ0 (zx_up σ 82 i v) :=
  ⟨fun p hp h82 => by rw [zu_other h82]; exact h.fr p hp h82, fun j a b c d e f g => by rw [zx_up_same, zu_ne (by omega)]; exact h.ff j a b c d e f g⟩
theorem FQ.trans {σ0 σ σ1 : zS} (h : FQ σ0 σ) (k : FQ σ σ1) : FQ σ0 σ1 :=
  ⟨fun q a b => (k.fr q a b).trans (h.fr q a b), fun i a b c d e f g => (k.ff i a b c d e f g).trans (h.ff i a b c d e f g)⟩
theorem FQ.jn {σ0 σ : zS} (h : JN σ0 σ) : FQ σ0 σ := ⟨fun q a _ => h.fr q (by omega), fun i _ _ _ _ _ _ _ => by rw [h.fr 82 (by decide)]⟩
theorem PG.of3 {σ0 σ : zS} (h : ∀ q, 90 ≤ q → q ≤ 101 → σ q = σ0 q) (k : σ 82 15 = σ0 82 15 ∧ σ 82 16 = σ0 82 16 ∧ σ 82 17 = σ0 82 17 ∧ σ 82 25 = σ0 82 25) (p : PG σ0) : PG σ := by
  have e90 := h 90 (by decide) (by decide); have e91 := h 91 (by decide) (by decide)
  have e92 := h 92 (by decide) (by decide); have e93 := h 93 (by decide) (by decide); have e94 := h 94 (by decide) (by decide); have e95 := h 95 (by decide) (by decide)
  have e98 := h 98 (by decide) (by decide); have e99 := h 99 (by decide) (by decide); have e100 := h 100 (by decide) (by decide); have e101 := h 101 (by decide) (by decide)
  obtain ⟨k1, k2, k3, k4⟩ := k
  obtain ⟨a1, a2, a3, a4, a5, a6, a7⟩ := p
  refine ⟨by rw [k1]; exact a1, by rw [k2]; exact a2, by rw [k3]; exact a3, by rw [k4]; exact a4, by rw [e90]; exact a5, ?_, by rw [k3, k4, e91]; exact a7⟩
  rw [k3, e90]
  intro t s h1 h2 h3 h4
  obtain ⟨b1, b2, b3, b4, b5, b6, b7, b8⟩ := a6 t s h1 h2 h3 h4
  refine ⟨?_, ?_, ?_, ?_, ?_, ?_, ?_, ?_⟩
  all_goals simp only [e92, e93, e94, e95, e98, e99, e100, e101]
  all_goals assumption
theorem PG.of2 {σ0 σ : zS} (h : ∀ q, q ≠ 82 → q ≤ 101 → σ q = σ0 q) (k : σ 82 15 = σ0 82 15 ∧ σ 82 16 = σ0 82 16 ∧ σ 82 17 = σ0 82 17 ∧ σ 82 25 = σ0 82 25) (p : PG σ0) : PG σ := by
  have e90 := h 90 (by decide) (by decide); have e91 := h 91 (by decide) (by decide)
  have e92 := h 92 (by decide) (by decide); have e93 := h 93 (by decide) (by decide); have e94 := h 94 (by decide) (by decide); have e95 := h 95 (by decide) (by decide)
  have e98 := h 98 (by decide) (by decide); have e99 := h 99 (by decide) (by decide); have e100 := h 100 (by decide) (by decide); have e101 := h 101 (by decide) (by decide)
  obtain ⟨k1, k2, k3, k4⟩ := k
  obtain ⟨a1, a2, a3, a4, a5, a6, a7⟩ := p
  refine ⟨by rw [k1]; exact a1, by rw [k2]; exact a2, by rw [k3]; exact a3, by rw [k4]; exact a4, by rw [e90]; exact a5, ?_, by rw [k3, k4, e91]; exact a7⟩
  rw [k3, e90]
  intro t s h1 h2 h3 h4
  obtain ⟨b1, b2, b3, b4, b5, b6, b7, b8⟩ := a6 t s h1 h2 h3 h4
  refine ⟨?_, ?_, ?_, ?_, ?_, ?_, ?_, ?_⟩
  all_goals simp only [e92, e93, e94, e95, e98, e99, e100, e101]
  all_goals assumption
theorem FQ.pg {σ0 σ : zS} (h : FQ σ0 σ) (p : PG σ0) : PG σ :=
  PG.of2 (fun q a b => h.fr q (by omega) a) ⟨h.ff 15 (by decide) (by decide) (by decide) (by decide) (by decide) (by decide) (by decide), h.ff 16 (by decide) (by decide) (by decide) (by decide) (by decide) (by decide) (by decide), h.ff 17 (by decide) (by decide) (by decide) (by decide) (by decide) (by decide) (by decide), h.ff 25 (by decide) (by decide) (by decide) (by decide) (by decide) (by decide) (by decide)⟩ p
theorem RI.of {σ r : zS} (h : RI σ) (e : ∀ q, q = 82 ∨ q = 90 ∨ q = 93 ∨ q = 108 ∨ q = 109 ∨ q = 110 → r q = σ q) : RI r := by
  have e1 := e 82 (by simp); have e2 := e 90 (by simp); have e3 := e 93 (by simp); have e4 := e 108 (by simp); have e5 := e 109 (by simp); have e6 := e 110 (by simp)
  obtain ⟨a, b, c, d, f⟩ := h
  refine ⟨?_, ?_, ?_, ?_, ?_⟩
  · rw [e1]; exact a
  · rw [e1]; exact b
  · rw [e1, e5]; exact c
  · rw [e1, e6]; exact d
  · rw [e1, e2, e3, e4]; exact f
theorem RP.jn {σ r : zS} {s : Int32} (h : RP σ s) (j : JN σ r) : RP r s := by
  have e := fun q (hq : q ≠ 107) => j.fr q hq
  obtain ⟨a, b, c, d, f, g, k⟩ := h
  refine ⟨j.pg, b.of (fun q hq => e q (by omega)), ?_, ?_, ?_, ?_, ?_⟩
  · rw [e 82 (by decide)]; exact c
  · rw [e 82 (by decide), e 111 (by decide)]; exact d
  · rw [e 82 (by decide)]; exact f
  · rw [e 82 (by decide), e 115 (by decide)]; exact g
  · rw [e 82 (by decide), e 114 (by decide)]; exact k
theorem RP.put {σ r : zS} {s v : Int32} (h : RP σ s) (p : PT σ r v) (hs : 0 ≤ s ∧ (s < σ 82 52 ∨ σ 82 52 = 0)) (hv : v ≠ -1) (x : Int32) : (r 82 52 ≤ σ 82 52 → RP r s) ∧ (¬ r 82 52 ≤ σ 82 52 → (0 ≤ v ∧ v < 4000) ∧ RP (zx_up (zx_up r 111 v.toNatClampNeg s) 112 v.toNatClampNeg x) s) ∧ (σ 82 52 = 0 → RP r s) := by
  obtain ⟨a, b, c, d, f, g, k⟩ := h
  obtain ⟨p1, p2, p3, p4, p5, p6, p7⟩ := p
  have fo := p1.fo
  have pg : PG r := PG.of2 (fun q x y => p2 q x (by omega) (by omega) (by omega)) ⟨p3 _ (by decide), p3 _ (by decide), p3 _ (by decide), p3 _ (by decide)⟩ a
  have e51 := p3 51 (by decide); have e60 := p3 60 (by decide)
  have e111 := p2 111 (by decide) (by decide) (by decide) (by decide); have e115 := p2 115 (by decide) (by decide) (by decide) (by decide); have e114 := p2 114 (by decide) (by decide) (by decide) (by decide)
  have g' : ∀ k : Int32, 0 ≤ k → k < r 82 60 → 0 ≤ r 115 k.toNatClampNeg ∧ r 115 k.toNatClampNeg < r 82 52 := by
    rw [e60, e115]; intro k k1 k2
    have := g k k1 k2
    exact ⟨this.1, Int32.lt_of_lt_of_le this.2 p5.1⟩
  have k' : ∀ i : Nat, i < 9216 → 0 ≤ r 114 i ∧ r 114 i ≤ r 82 52 := by
    rw [e114]; intro i hi; exact ⟨(k i hi).1, Int32.le_trans (k i hi).2 p5.1⟩
  refine ⟨fun q => ?_, fun q => ?_, fun q => ?_⟩
  · have e52 : r 82 52 = σ 82 52 := by (first | with_reducible assumption | omega | grind)
    refine ⟨pg, p1, by rw [e51]; exact c, ?_, by rw [e60]; exact f, g', k'⟩
    rw [e111, e52]; exact d
  · have hv2 := p7 (by (first | with_reducible assumption | omega | grind))
    rw [c] at hv2
    have v4 : 0 ≤ v ∧ v < 4000 := by (first | with_reducible assumption | omega | grind)
    refine ⟨v4, ?_⟩
    have E : ∀ q, q ≠ 111 → q ≠ 112 → (zx_up (zx_up r 111 v.toNatClampNeg s) 112 v.toNatClampNeg x) q = r q := fun q a b => by rw [zu_other b, zu_other a]
    have E82 := E 82 (by decide) (by decide)
    refine ⟨PG.of (fun q _ b => E q (by omega) (by omega)) pg, p1.of (fun q b => E q (by omega) (by omega)), by rw [E82, e51]; exact c, ?_, by rw [E82, e60]; exact f, ?_, ?_⟩
    · rw [E82, zu_other (by decide), zx_up_same]
      intro t t0 t1
      by_cases w : t = v
      · rw [w, zu_eq]; (first | with_reducible assumption | omega | grind)
      · rw [zu_ne (fun e => w (z_inj (by (first | with_reducible assumption | omega | grind)) v4.1 e)), e111]
        exact d t t0 (by (first | with_reducible assumption | omega | grind))
    · rw [E82, E 115 (by decide) (by decide)]; exact g'
    · rw [E82, E 114 (by decide) (by decide)]; exact k'
  · refine ⟨pg, p1, by rw [e51]; exact c, ?_, by rw [e60]; exact f, g', k'⟩
    intro t t0 t1
    exact absurd t1 (by (first | with_reducible assumption | omega | grind))
theorem q_f_M_touches {σ : zS} {x1 : Int32} {Q : Int32 → Prop} (hx : 0 ≤ x1 ∧ x1 < 96) (hQ : ∀ r, (r = 0 ∨ σ 92 x1.toNatClampNeg = 0 ∨ σ 92 x1.toNatClampNeg = 1) → Q r) : zq (zf_M_touches σ x1) Q := by
  unfold zf_M_touches
  refine zq_chk hx fun _ => zq_ite (fun c => hQ _ (by (first | with_reducible assumption | omega | grind))) fun c => zq_chk hx fun _ => zq_ite (fun c => hQ _ (by (first | with_reducible assumption | omega | grind))) fun c => hQ _ (by grind)
theorem q_f_M_wouldRace {σ : zS} {x1 x2 S : Int32} {Q : Int32 → Prop} (h1 : 0 ≤ x1 ∧ x1 < 96) (h2 : 0 ≤ x2 ∧ x2 < 96) (ok : SK σ x1.toNatClampNeg S) (hQ : ∀ r, Q r) : zq (zf_M_wouldRace σ x1 x2) Q := by
  unfold zf_M_wouldRace
  refine zq_bind (q_f_M_touches h1 fun r1 p1 => ?_)
  refine zq_ite (fun c => hQ _) fun c => ?_
  refine zq_bind (q_f_M_touches h2 fun r3 p3 => ?_)
  refine zq_ite (fun c => hQ _) fun c => ?_
  refine zq_chk h1 fun _ => zq_chk h2 fun _ => zq_ite (fun c => hQ _) fun c => zq_chk h1 fun _ => ?_
  have w0 := ok.w0
  have w1 := ok.w1
  refine zq_chk (by grind) fun _ => zq_ite (fun c => hQ _) fun c => zq_chk h1 fun _ => zq_ite (fun c => hQ _) fun c => zq_chk h2 fun _ => zq_ite (fun c => hQ _) fun c => hQ _
theorem z_pair {a b p q : Int32} (ha : 0 ≤ a ∧ a < 4) (hp : 0 ≤ p ∧ p < 24) (hb : 0 ≤ b ∧ b < 4) (hq : 0 ≤ q ∧ q < 24) : (0 ≤ 24 * a + p ∧ 24 * a + p < 96) ∧ (0 ≤ 96 * (24 * a + p) + (24 * b + q) ∧ 96 * (24 * a + p) + (24 * b + q) < 9216) := by
  grind
theorem q_f_M_lookForRaces {N : Nat} (hN : zBig ≤ N) {σ : zS} {x1 : Int32} {Q : zS → Prop} (hJ : JN σ σ) (hx : 0 ≤ x1 ∧ x1 < σ 82 52) (h4 : σ 82 52 ≤ 4000) (hra : ∀ i, i < 9216 → 0 ≤ σ 114 i ∧ σ 114 i ≤ σ 82 52) (hQ : ∀ r, (∀ q, q ≠ 114 → r q = σ q) → (∀ i, i < 9216 → 0 ≤ r 114 i ∧ r 114 i ≤ σ 82 52) → Q r) : zq (zf_M_lookForRaces N σ x1) Q := by
  have nt := hJ.pg.nt
  have H14 : ∀ (k2 : zS → Int32 → Int32 → Option zS) (v2 : Int32), 0 ≤ v2 ∧ v2 < σ 82 17 → (∀ r, (∀ q, q ≠ 114 → r q = σ q) → (∀ i, i < 9216 → 0 ≤ r 114 i ∧ r 114 i ≤ σ 82 52) → zq (k2 r x1 (v2 + 1)) Q) → ∀ (n : Nat) (ρ : zS) (v3 : Int32), (∀ q, q ≠ 114 → ρ q = σ q) → (∀ i, i < 9216 → 0 ≤ ρ 114 i ∧ ρ 114 i ≤ σ 82 52) → 0 ≤ v3 → zmu v3 < n → zq (zb_M_lookForRaces_14 k2 N n ρ x1 v2 v3) Q := by
    intro k2 v2 h2 hk n
    induction n with
    | zero => intro _ _ _ _ _ hn; exact absurd hn (Nat.not_lt_zero _)
    | succ n ih =>
      intro ρ v3 hf hr h0 hn
      have e107 := hf 107 (by decide); have e82 := hf 82 (by decide); have e92 := hf 92 (by decide)
      rw [zb_M_lookForRaces_14]
      refine zq_ite (fun c1 => hk _ hf hr) fun c1 => ?_
      rw [e82] at c1
      have x2 : 0 ≤ v2 ∧ v2 < 4 := by (first | with_reducible assumption | omega | grind)
      have x3 : 0 ≤ v3 ∧ v3 < 4 := by (first | with_reducible assumption | omega | grind)
      have h3 : 0 ≤ v3 ∧ v3 < σ 82 17 := ⟨h0, Int32.not_le.mp c1⟩
      have go : ∀ r, (∀ q, q ≠ 114 → r q = σ q) → (∀ i, i < 9216 → 0 ≤ r 114 i ∧ r 114 i ≤ σ 82 52) → zq (zb_M_lookForRaces_115 (zb_M_lookForRaces_14 k2 N n) N r x1 v2 v3) Q := fun r a b => ih r (v3 + 1) a b (by (first | with_reducible assumption | omega | grind)) (zmu_up c1 hn)
      refine zq_bind (q_f_M_stateOf x2 fun r3 p3 => ?_)
      refine zq_ite (fun c2 => go _ hf hr) fun c2 => ?_
      refine zq_bind (q_f_M_stateOf x3 fun r5 p5 => ?_)
      refine zq_ite (fun c3 => go _ hf hr) fun c3 => ?_
      refine zq_bind (q_f_M_at fun r7 p7 => ?_)
      refine zq_chk (by (first | with_reducible assumption | omega | grind)) fun _ => ?_
      refine zq_bind (q_f_M_at fun r9 p9 => ?_)
      refine zq_chk (by (first | with_reducible assumption | omega | grind)) fun _ => ?_
      have d2 := hJ.nw.rd r7 v2 p7 x2.1 x2.2
      have d3 := hJ.nw.rd r9 v3 p9 x3.1 x3.2
      rw [e107] at p3 p5 ⊢
      have l2 := d2.2.1 (by grind)
      have l3 := d3.2.1 (by grind)
      have s2 := hJ.pg.st v2.toNatClampNeg
      have s3 := hJ.pg.st v3.toNatClampNeg
      have ok := hJ.pg.ok v2 (σ 107 r7.toNatClampNeg) h2.1 h2.2 d2.1.1 l2
      have b1 := z_pair x2 (show 0 ≤ σ 107 r7.toNatClampNeg ∧ σ 107 r7.toNatClampNeg < 24 by (first | with_reducible assumption | omega | grind)) x3 (show 0 ≤ σ 107 r9.toNatClampNeg ∧ σ 107 r9.toNatClampNeg < 24 by (first | with_reducible assumption | omega | grind))
      have b2 := z_pair x3 (show 0 ≤ σ 107 r9.toNatClampNeg ∧ σ 107 r9.toNatClampNeg < 24 by (first | with_reducible assumption | omega | grind)) x2 (show 0 ≤ σ 107 r7.toNatClampNeg ∧ σ 107 r7.toNatClampNeg < 24 by (first | with_reducible assumption | omega | grind))
      refine zq_bind (q_f_M_wouldRace b1.1 b2.1 (S := σ 90 v2.toNatClampNeg) ?_ fun r11 => ?_)
      · obtain ⟨k1, k2, k3, k4, k5, k6, k7, k8⟩ := ok
        have f93 := hf 93 (by decide); have f94 := hf 94 (by decide); have f95 := hf 95 (by decide); have f98 := hf 98 (by decide); have f99 := hf 99 (by decide); have f100 := hf 100 (by decide); have f101 := hf 101 (by decide)
        refine ⟨?_, ?_, ?_, ?_, ?_, ?_, ?_, ?_⟩
        all_goals simp only [e92, f93, f94, f95, f98, f99, f100, f101]
        all_goals assumption
      refine zq_ite (fun c4 => go _ hf hr) fun c4 => ?_
      refine zq_chk b1.2 fun _ => ?_
      refine zq_ite (fun c5 => go _ hf hr) fun c5 => ?_
      refine zq_chk b1.2 fun _ => ?_
      refine go _ (fun q hq => by rw [zu_other hq]; exact hf q hq) ?_
      intro i hi
      rw [zx_up_same]
      unfold zu
      by_cases w : i = (96 * (24 * v2 + σ 107 r7.toNatClampNeg) + (24 * v3 + σ 107 r9.toNatClampNeg)).toNatClampNeg
      · rw [if_pos w]; (first | with_reducible assumption | omega | grind)
      · rw [if_neg w]; exact hr i hi
  have H2 : ∀ (n : Nat) (ρ : zS) (v2 : Int32), (∀ q, q ≠ 114 → ρ q = σ q) → (∀ i, i < 9216 → 0 ≤ ρ 114 i ∧ ρ 114 i ≤ σ 82 52) → 0 ≤ v2 → zmu v2 < n → zq (zb_M_lookForRaces_2 N n ρ x1 v2) Q := by
    intro n
    induction n with
    | zero => intro _ _ _ _ _ hn; exact absurd hn (Nat.not_lt_zero _)
    | succ n ih =>
      intro ρ v2 hf hr h0 hn
      have e82 := hf 82 (by decide)
      rw [zb_M_lookForRaces_2]
      refine zq_ite (fun c1 => hQ _ hf hr) fun c1 => ?_
      rw [e82] at c1
      exact H14 _ v2 ⟨h0, Int32.not_le.mp c1⟩ (fun r a b => ih r (v2 + 1) a b (by (first | with_reducible assumption | omega | grind)) (zmu_up c1 hn)) N ρ (v2 + 1) hf hr (by (first | with_reducible assumption | omega | grind)) (zmu_lt hN _)
  exact H2 N σ 0 (fun _ _ => rfl) hra (by decide) (zmu_lt hN _)
theorem q_b_M_isOutcome_177 {N : Nat} (hN : zBig ≤ N) {k66 : zS → Int32 → Int32 → Int32 → Int32 → Int32 → Int32 → Option (Int32)} {σ0 : zS} {σ : zS} {v1 : Int32} {v2 : Int32} {v3 : Int32} {v5 : Int32} {v6 : Int32} {v8 : Int32} {s0 : Int32} {Q : (Int32) → Prop} (hJ : PGJ σ0 σ) (hk66_0 : zq (k66 σ v1 v2 v3 s0 1 (v6 + 1)) Q) (hk66_1 : zq (k66 σ v1 v2 v3 s0 0 (v6 + 1)) Q) : zq (zb_M_isOutcome_177 k66 N σ v1 v2 v3 v5 v6 v8 s0) Q := by
  unfold zb_M_isOutcome_177
  have nt := hJ.nt
  have nf := hJ.nf
  refine zq_ite (fun c1 => ?_) fun c1 => ?_
  ·
    show zq (zb_M_isOutcome_201 k66 N σ v1 v2 v3 s0 v6) Q
    unfold zb_M_isOutcome_201
    show zq (zb_M_isOutcome_206 k66 N σ v1 v2 v3 s0 v6 1) Q
    unfold zb_M_isOutcome_206
    exact hk66_0  
  ·
    refine zq_ite (fun c2 => ?_) fun c2 => ?_
    ·
      show zq (zb_M_isOutcome_205 k66 N σ v1 v2 v3 s0 v6) Q
      unfold zb_M_isOutcome_205
      show zq (zb_M_isOutcome_206 k66 N σ v1 v2 v3 s0 v6 0) Q
      unfold zb_M_isOutcome_206
      exact hk66_1  
    ·
      refine zq_ite (fun c3 => ?_) fun c3 => ?_
      ·
        show zq (zb_M_isOutcome_205 k66 N σ v1 v2 v3 s0 v6) Q
        unfold zb_M_isOutcome_205
        show zq (zb_M_isOutcome_206 k66 N σ v1 v2 v3 s0 v6 0) Q
        unfold zb_M_isOutcome_206
        exact hk66_1  
      ·
        refine zq_ite (fun c4 => ?_) fun c4 => ?_
        ·
          show zq (zb_M_isOutcome_205 k66 N σ v1 v2 v3 s0 v6) Q
          unfold zb_M_isOutcome_205
          show zq (zb_M_isOutcome_206 k66 N σ v1 v2 v3 s0 v6 0) Q
          unfold zb_M_isOutcome_206
          exact hk66_1  
        ·
          show zq (zb_M_isOutcome_201 k66 N σ v1 v2 v3 s0 v6) Q
          unfold zb_M_isOutcome_201
          show zq (zb_M_isOutcome_206 k66 N σ v1 v2 v3 s0 v6 1) Q
          unfold zb_M_isOutcome_206
          exact hk66_0  

theorem q_b_M_isOutcome_149 {N : Nat} (hN : zBig ≤ N) {k66 : zS → Int32 → Int32 → Int32 → Int32 → Int32 → Int32 → Option (Int32)} {σ0 : zS} {σ : zS} {v1 : Int32} {v2 : Int32} {v4 : Int32} {v5 : Int32} {v6 : Int32} {v7 : Int32} {v8 : Int32} {s0 : Int32} {Q : (Int32) → Prop} (hJ : PGJ σ0 σ) (hk66_0 : zq (k66 σ v1 v2 s0 1 1 (v6 + 1)) Q) (hk66_1 : zq (k66 σ v1 v2 s0 1 0 (v6 + 1)) Q) (hk66_2 : zq (k66 σ v1 v2 s0 0 1 (v6 + 1)) Q) (hk66_3 : zq (k66 σ v1 v2 s0 0 0 (v6 + 1)) Q) : zq (zb_M_isOutcome_149 k66 N σ v1 v2 v4 v5 v6 v7 v8 s0) Q := by
  unfold zb_M_isOutcome_149
  have nt := hJ.nt
  have nf := hJ.nf
  refine zq_ite (fun c1 => ?_) fun c1 => ?_
  ·
    show zq (zb_M_isOutcome_172 k66 N σ v1 v2 s0 v5 v6 v8) Q
    unfold zb_M_isOutcome_172
    exact q_b_M_isOutcome_177 hN (σ0 := σ0) hJ (hk66_0  ) (hk66_1  )
  ·
    refine zq_ite (fun c2 => ?_) fun c2 => ?_
    ·
      show zq (zb_M_isOutcome_176 k66 N σ v1 v2 s0 v5 v6 v8) Q
      unfold zb_M_isOutcome_176
      exact q_b_M_isOutcome_177 hN (σ0 := σ0) hJ (hk66_2  ) (hk66_3  )
    ·
      refine zq_ite (fun c3 => ?_) fun c3 => ?_
      ·
        show zq (zb_M_isOutcome_176 k66 N σ v1 v2 s0 v5 v6 v8) Q
        unfold zb_M_isOutcome_176
        exact q_b_M_isOutcome_177 hN (σ0 := σ0) hJ (hk66_2  ) (hk66_3  )
      ·
        refine zq_ite (fun c4 => ?_) fun c4 => ?_
        ·
          show zq (zb_M_isOutcome_176 k66 N σ v1 v2 s0 v5 v6 v8) Q
          unfold zb_M_isOutcome_176
          exact q_b_M_isOutcome_177 hN (σ0 := σ0) hJ (hk66_2  ) (hk66_3  )
        ·
          show zq (zb_M_isOutcome_172 k66 N σ v1 v2 s0 v5 v6 v8) Q
          unfold zb_M_isOutcome_172
          exact q_b_M_isOutcome_177 hN (σ0 := σ0) hJ (hk66_0  ) (hk66_1  )

theorem q_b_M_isOutcome_66 {N : Nat} (hN : zBig ≤ N) {σ0 : zS} {σ : zS} {v1 : Int32} {v2 : Int32} {Q : (Int32) → Prop} (hJ : PGJ σ0 σ) (hQ : ∀ r, Q r) : ∀ (n : Nat) (v3 : Int32) (v4 : Int32) (v5 : Int32) (v6 : Int32), (((0 ≤ v1 ∧ v1 < 8000) ∧ (0 ≤ v2 ∧ v2 < 8000)) ∧ 0 ≤ v6) → zmu v6 < n → zq (zb_M_isOutcome_66 N n σ v1 v2 v3 v4 v5 v6) Q := by
  intro n
  induction n with
  | zero => intro _ _ _ _ _ hn; exact absurd hn (Nat.not_lt_zero _)
  | succ n ih =>
    intro v3 v4 v5 v6 hI hn
    rw [zb_M_isOutcome_66]
    have nt := hJ.nt
    have nf := hJ.nf
    refine zq_ite (fun c1 => ?_) fun c1 => ?_
    ·
      refine zq_ite (fun c2 => ?_) fun c2 => ?_
      ·
        exact hQ _
      ·
        refine zq_ite (fun c3 => ?_) fun c3 => ?_
        ·
          exact hQ _
        ·
          exact hQ _
    ·
      refine zq_bind (q_f_M_at  fun r5 pr5 => ?_)
      refine zq_chk (by (first | with_reducible assumption | omega | grind)) fun c4 => ?_
      refine zq_bind (q_f_M_at  fun r7 pr7 => ?_)
      refine zq_chk (by (first | with_reducible assumption | omega | grind)) fun c5 => ?_
      refine zq_ite (fun c6 => ?_) fun c6 => ?_
      ·
        show zq (zb_M_isOutcome_148 (zb_M_isOutcome_66 N n) N σ v1 v2 v4 v5 v6 (σ 108 (((40 * v1) + r5) + 1).toNatClampNeg) (σ 108 (((40 * v2) + r7) + 1).toNatClampNeg)) Q
        unfold zb_M_isOutcome_148
        exact q_b_M_isOutcome_149 hN (σ0 := σ0) hJ (ih 0 1 1 (v6 + 1) (by (first | with_reducible assumption | omega | grind)) (by first | exact zmu_up (by assumption) hn | exact zmu_up (b := 2147483647) (by (first | with_reducible assumption | omega | grind)) hn | (first | with_reducible assumption | omega | grind))) (ih 0 1 0 (v6 + 1) (by (first | with_reducible assumption | omega | grind)) (by first | exact zmu_up (by assumption) hn | exact zmu_up (b := 2147483647) (by (first | with_reducible assumption | omega | grind)) hn | (first | with_reducible assumption | omega | grind))) (ih 0 0 1 (v6 + 1) (by (first | with_reducible assumption | omega | grind)) (by first | exact zmu_up (by assumption) hn | exact zmu_up (b := 2147483647) (by (first | with_reducible assumption | omega | grind)) hn | (first | with_reducible assumption | omega | grind))) (ih 0 0 0 (v6 + 1) (by (first | with_reducible assumption | omega | grind)) (by first | exact zmu_up (by assumption) hn | exact zmu_up (b := 2147483647) (by (first | with_reducible assumption | omega | grind)) hn | (first | with_reducible assumption | omega | grind)))
      ·
        refine zq_ite (fun c7 => ?_) fun c7 => ?_
        ·
          show zq (zb_M_isOutcome_130 (zb_M_isOutcome_66 N n) N σ v1 v2 v4 v5 v6 (σ 108 (((40 * v1) + r5) + 1).toNatClampNeg) (σ 108 (((40 * v2) + r7) + 1).toNatClampNeg) 0) Q
          unfold zb_M_isOutcome_130
          refine zq_ite (fun c8 => ?_) fun c8 => ?_
          ·
            show zq (zb_M_isOutcome_141 (zb_M_isOutcome_66 N n) N σ v1 v2 v4 v5 v6 (σ 108 (((40 * v1) + r5) + 1).toNatClampNeg) (σ 108 (((40 * v2) + r7) + 1).toNatClampNeg) 0 0) Q
            unfold zb_M_isOutcome_141
            refine zq_ite (fun c9 => ?_) fun c9 => ?_
            ·
              show zq (zb_M_isOutcome_148 (zb_M_isOutcome_66 N n) N σ v1 v2 v4 v5 v6 (σ 108 (((40 * v1) + r5) + 1).toNatClampNeg) (σ 108 (((40 * v2) + r7) + 1).toNatClampNeg)) Q
              unfold zb_M_isOutcome_148
              exact q_b_M_isOutcome_149 hN (σ0 := σ0) hJ (ih 0 1 1 (v6 + 1) (by (first | with_reducible assumption | omega | grind)) (by first | exact zmu_up (by assumption) hn | exact zmu_up (b := 2147483647) (by (first | with_reducible assumption | omega | grind)) hn | (first | with_reducible assumption | omega | grind))) (ih 0 1 0 (v6 + 1) (by (first | with_reducible assumption | omega | grind)) (by first | exact zmu_up (by assumption) hn | exact zmu_up (b := 2147483647) (by (first | with_reducible assumption | omega | grind)) hn | (first | with_reducible assumption | omega | grind))) (ih 0 0 1 (v6 + 1) (by (first | with_reducible assumption | omega | grind)) (by first | exact zmu_up (by assumption) hn | exact zmu_up (b := 2147483647) (by (first | with_reducible assumption | omega | grind)) hn | (first | with_reducible assumption | omega | grind))) (ih 0 0 0 (v6 + 1) (by (first | with_reducible assumption | omega | grind)) (by first | exact zmu_up (by assumption) hn | exact zmu_up (b := 2147483647) (by (first | with_reducible assumption | omega | grind)) hn | (first | with_reducible assumption | omega | grind)))
            ·
              exact q_b_M_isOutcome_149 hN (σ0 := σ0) hJ (ih 1 1 1 (v6 + 1) (by (first | with_reducible assumption | omega | grind)) (by first | exact zmu_up (by assumption) hn | exact zmu_up (b := 2147483647) (by (first | with_reducible assumption | omega | grind)) hn | (first | with_reducible assumption | omega | grind))) (ih 1 1 0 (v6 + 1) (by (first | with_reducible assumption | omega | grind)) (by first | exact zmu_up (by assumption) hn | exact zmu_up (b := 2147483647) (by (first | with_reducible assumption | omega | grind)) hn | (first | with_reducible assumption | omega | grind))) (ih 1 0 1 (v6 + 1) (by (first | with_reducible assumption | omega | grind)) (by first | exact zmu_up (by assumption) hn | exact zmu_up (b := 2147483647) (by (first | with_reducible assumption | omega | grind)) hn | (first | with_reducible assumption | omega | grind))) (ih 1 0 0 (v6 + 1) (by (first | with_reducible assumption | omega | grind)) (by first | exact zmu_up (by assumption) hn | exact zmu_up (b := 2147483647) (by (first | with_reducible assumption | omega | grind)) hn | (first | with_reducible assumption | omega | grind)))
          ·
            show zq (zb_M_isOutcome_141 (zb_M_isOutcome_66 N n) N σ v1 v2 v4 v5 v6 (σ 108 (((40 * v1) + r5) + 1).toNatClampNeg) (σ 108 (((40 * v2) + r7) + 1).toNatClampNeg) 1 0) Q
            unfold zb_M_isOutcome_141
            refine zq_ite (fun c10 => ?_) fun c10 => ?_
            ·
              show zq (zb_M_isOutcome_148 (zb_M_isOutcome_66 N n) N σ v1 v2 v4 v5 v6 (σ 108 (((40 * v1) + r5) + 1).toNatClampNeg) (σ 108 (((40 * v2) + r7) + 1).toNatClampNeg)) Q
              unfold zb_M_isOutcome_148
              exact q_b_M_isOutcome_149 hN (σ0 := σ0) hJ (ih 0 1 1 (v6 + 1) (by (first | with_reducible assumption | omega | grind)) (by first | exact zmu_up (by assumption) hn | exact zmu_up (b := 2147483647) (by (first | with_reducible assumption | omega | grind)) hn | (first | with_reducible assumption | omega | grind))) (ih 0 1 0 (v6 + 1) (by (first | with_reducible assumption | omega | grind)) (by first | exact zmu_up (by assumption) hn | exact zmu_up (b := 2147483647) (by (first | with_reducible assumption | omega | grind)) hn | (first | with_reducible assumption | omega | grind))) (ih 0 0 1 (v6 + 1) (by (first | with_reducible assumption | omega | grind)) (by first | exact zmu_up (by assumption) hn | exact zmu_up (b := 2147483647) (by (first | with_reducible assumption | omega | grind)) hn | (first | with_reducible assumption | omega | grind))) (ih 0 0 0 (v6 + 1) (by (first | with_reducible assumption | omega | grind)) (by first | exact zmu_up (by assumption) hn | exact zmu_up (b := 2147483647) (by (first | with_reducible assumption | omega | grind)) hn | (first | with_reducible assumption | omega | grind)))
            ·
              exact q_b_M_isOutcome_149 hN (σ0 := σ0) hJ (ih 1 1 1 (v6 + 1) (by (first | with_reducible assumption | omega | grind)) (by first | exact zmu_up (by assumption) hn | exact zmu_up (b := 2147483647) (by (first | with_reducible assumption | omega | grind)) hn | (first | with_reducible assumption | omega | grind))) (ih 1 1 0 (v6 + 1) (by (first | with_reducible assumption | omega | grind)) (by first | exact zmu_up (by assumption) hn | exact zmu_up (b := 2147483647) (by (first | with_reducible assumption | omega | grind)) hn | (first | with_reducible assumption | omega | grind))) (ih 1 0 1 (v6 + 1) (by (first | with_reducible assumption | omega | grind)) (by first | exact zmu_up (by assumption) hn | exact zmu_up (b := 2147483647) (by (first | with_reducible assumption | omega | grind)) hn | (first | with_reducible assumption | omega | grind))) (ih 1 0 0 (v6 + 1) (by (first | with_reducible assumption | omega | grind)) (by first | exact zmu_up (by assumption) hn | exact zmu_up (b := 2147483647) (by (first | with_reducible assumption | omega | grind)) hn | (first | with_reducible assumption | omega | grind)))
        ·
          show zq (zb_M_isOutcome_130 (zb_M_isOutcome_66 N n) N σ v1 v2 v4 v5 v6 (σ 108 (((40 * v1) + r5) + 1).toNatClampNeg) (σ 108 (((40 * v2) + r7) + 1).toNatClampNeg) 1) Q
          unfold zb_M_isOutcome_130
          refine zq_ite (fun c11 => ?_) fun c11 => ?_
          ·
            show zq (zb_M_isOutcome_141 (zb_M_isOutcome_66 N n) N σ v1 v2 v4 v5 v6 (σ 108 (((40 * v1) + r5) + 1).toNatClampNeg) (σ 108 (((40 * v2) + r7) + 1).toNatClampNeg) 0 1) Q
            unfold zb_M_isOutcome_141
            refine zq_ite (fun c12 => ?_) fun c12 => ?_
            ·
              show zq (zb_M_isOutcome_148 (zb_M_isOutcome_66 N n) N σ v1 v2 v4 v5 v6 (σ 108 (((40 * v1) + r5) + 1).toNatClampNeg) (σ 108 (((40 * v2) + r7) + 1).toNatClampNeg)) Q
              unfold zb_M_isOutcome_148
              exact q_b_M_isOutcome_149 hN (σ0 := σ0) hJ (ih 0 1 1 (v6 + 1) (by (first | with_reducible assumption | omega | grind)) (by first | exact zmu_up (by assumption) hn | exact zmu_up (b := 2147483647) (by (first | with_reducible assumption | omega | grind)) hn | (first | with_reducible assumption | omega | grind))) (ih 0 1 0 (v6 + 1) (by (first | with_reducible assumption | omega | grind)) (by first | exact zmu_up (by assumption) hn | exact zmu_up (b := 2147483647) (by (first | with_reducible assumption | omega | grind)) hn | (first | with_reducible assumption | omega | grind))) (ih 0 0 1 (v6 + 1) (by (first | with_reducible assumption | omega | grind)) (by first | exact zmu_up (by assumption) hn | exact zmu_up (b := 2147483647) (by (first | with_reducible assumption | omega | grind)) hn | (first | with_reducible assumption | omega | grind))) (ih 0 0 0 (v6 + 1) (by (first | with_reducible assumption | omega | grind)) (by first | exact zmu_up (by assumption) hn | exact zmu_up (b := 2147483647) (by (first | with_reducible assumption | omega | grind)) hn | (first | with_reducible assumption | omega | grind)))
            ·
              exact q_b_M_isOutcome_149 hN (σ0 := σ0) hJ (ih 1 1 1 (v6 + 1) (by (first | with_reducible assumption | omega | grind)) (by first | exact zmu_up (by assumption) hn | exact zmu_up (b := 2147483647) (by (first | with_reducible assumption | omega | grind)) hn | (first | with_reducible assumption | omega | grind))) (ih 1 1 0 (v6 + 1) (by (first | with_reducible assumption | omega | grind)) (by first | exact zmu_up (by assumption) hn | exact zmu_up (b := 2147483647) (by (first | with_reducible assumption | omega | grind)) hn | (first | with_reducible assumption | omega | grind))) (ih 1 0 1 (v6 + 1) (by (first | with_reducible assumption | omega | grind)) (by first | exact zmu_up (by assumption) hn | exact zmu_up (b := 2147483647) (by (first | with_reducible assumption | omega | grind)) hn | (first | with_reducible assumption | omega | grind))) (ih 1 0 0 (v6 + 1) (by (first | with_reducible assumption | omega | grind)) (by first | exact zmu_up (by assumption) hn | exact zmu_up (b := 2147483647) (by (first | with_reducible assumption | omega | grind)) hn | (first | with_reducible assumption | omega | grind)))
          ·
            show zq (zb_M_isOutcome_141 (zb_M_isOutcome_66 N n) N σ v1 v2 v4 v5 v6 (σ 108 (((40 * v1) + r5) + 1).toNatClampNeg) (σ 108 (((40 * v2) + r7) + 1).toNatClampNeg) 1 1) Q
            unfold zb_M_isOutcome_141
            refine zq_ite (fun c13 => ?_) fun c13 => ?_
            ·
              show zq (zb_M_isOutcome_148 (zb_M_isOutcome_66 N n) N σ v1 v2 v4 v5 v6 (σ 108 (((40 * v1) + r5) + 1).toNatClampNeg) (σ 108 (((40 * v2) + r7) + 1).toNatClampNeg)) Q
              unfold zb_M_isOutcome_148
              exact q_b_M_isOutcome_149 hN (σ0 := σ0) hJ (ih 0 1 1 (v6 + 1) (by (first | with_reducible assumption | omega | grind)) (by first | exact zmu_up (by assumption) hn | exact zmu_up (b := 2147483647) (by (first | with_reducible assumption | omega | grind)) hn | (first | with_reducible assumption | omega | grind))) (ih 0 1 0 (v6 + 1) (by (first | with_reducible assumption | omega | grind)) (by first | exact zmu_up (by assumption) hn | exact zmu_up (b := 2147483647) (by (first | with_reducible assumption | omega | grind)) hn | (first | with_reducible assumption | omega | grind))) (ih 0 0 1 (v6 + 1) (by (first | with_reducible assumption | omega | grind)) (by first | exact zmu_up (by assumption) hn | exact zmu_up (b := 2147483647) (by (first | with_reducible assumption | omega | grind)) hn | (first | with_reducible assumption | omega | grind))) (ih 0 0 0 (v6 + 1) (by (first | with_reducible assumption | omega | grind)) (by first | exact zmu_up (by assumption) hn | exact zmu_up (b := 2147483647) (by (first | with_reducible assumption | omega | grind)) hn | (first | with_reducible assumption | omega | grind)))
            ·
              exact q_b_M_isOutcome_149 hN (σ0 := σ0) hJ (ih 1 1 1 (v6 + 1) (by (first | with_reducible assumption | omega | grind)) (by first | exact zmu_up (by assumption) hn | exact zmu_up (b := 2147483647) (by (first | with_reducible assumption | omega | grind)) hn | (first | with_reducible assumption | omega | grind))) (ih 1 1 0 (v6 + 1) (by (first | with_reducible assumption | omega | grind)) (by first | exact zmu_up (by assumption) hn | exact zmu_up (b := 2147483647) (by (first | with_reducible assumption | omega | grind)) hn | (first | with_reducible assumption | omega | grind))) (ih 1 0 1 (v6 + 1) (by (first | with_reducible assumption | omega | grind)) (by first | exact zmu_up (by assumption) hn | exact zmu_up (b := 2147483647) (by (first | with_reducible assumption | omega | grind)) hn | (first | with_reducible assumption | omega | grind))) (ih 1 0 0 (v6 + 1) (by (first | with_reducible assumption | omega | grind)) (by first | exact zmu_up (by assumption) hn | exact zmu_up (b := 2147483647) (by (first | with_reducible assumption | omega | grind)) hn | (first | with_reducible assumption | omega | grind)))

theorem q_b_M_isOutcome_5 {N : Nat} (hN : zBig ≤ N) {σ0 : zS} {σ : zS} {v1 : Int32} {v2 : Int32} {Q : (Int32) → Prop} (hJ : PGJ σ0 σ) (hQ : ∀ r, Q r) : ∀ (n : Nat) (v3 : Int32) (v4 : Int32), (((0 ≤ v1 ∧ v1 < 8000) ∧ (0 ≤ v2 ∧ v2 < 8000)) ∧ 0 ≤ v4) → zmu v4 < n → zq (zb_M_isOutcome_5 N n σ v1 v2 v3 v4) Q := by
  intro n
  induction n with
  | zero => intro _ _ _ hn; exact absurd hn (Nat.not_lt_zero _)
  | succ n ih =>
    intro v3 v4 hI hn
    rw [zb_M_isOutcome_5]
    have nt := hJ.nt
    have nf := hJ.nf
    refine zq_ite (fun c1 => ?_) fun c1 => ?_
    ·
      exact q_b_M_isOutcome_66 hN (σ0 := σ0) hJ hQ N v3 0 0 0 (by (first | with_reducible assumption | omega | grind)) (by exact zmu_lt hN _)
    ·
      refine zq_ite (fun c2 => ?_) fun c2 => ?_
      ·
        show zq (zb_M_isOutcome_49 (zb_M_isOutcome_5 N n) N σ v1 v2 v4) Q
        unfold zb_M_isOutcome_49
        show zq (zb_M_isOutcome_50 (zb_M_isOutcome_5 N n) N σ v1 v2 v4 0) Q
        unfold zb_M_isOutcome_50
        exact ih 0 (v4 + 1) (by (first | with_reducible assumption | omega | grind)) (by first | exact zmu_up (by assumption) hn | exact zmu_up (b := 2147483647) (by (first | with_reducible assumption | omega | grind)) hn | (first | with_reducible assumption | omega | grind))
      ·
        refine zq_chk (by (first | with_reducible assumption | omega | grind)) fun c3 => ?_
        refine zq_chk (by (first | with_reducible assumption | omega | grind)) fun c4 => ?_
        refine zq_ite (fun c5 => ?_) fun c5 => ?_
        ·
          show zq (zb_M_isOutcome_49 (zb_M_isOutcome_5 N n) N σ v1 v2 v4) Q
          unfold zb_M_isOutcome_49
          show zq (zb_M_isOutcome_50 (zb_M_isOutcome_5 N n) N σ v1 v2 v4 0) Q
          unfold zb_M_isOutcome_50
          exact ih 0 (v4 + 1) (by (first | with_reducible assumption | omega | grind)) (by first | exact zmu_up (by assumption) hn | exact zmu_up (b := 2147483647) (by (first | with_reducible assumption | omega | grind)) hn | (first | with_reducible assumption | omega | grind))
        ·
          show zq (zb_M_isOutcome_50 (zb_M_isOutcome_5 N n) N σ v1 v2 v4 1) Q
          unfold zb_M_isOutcome_50
          exact ih 1 (v4 + 1) (by (first | with_reducible assumption | omega | grind)) (by first | exact zmu_up (by assumption) hn | exact zmu_up (b := 2147483647) (by (first | with_reducible assumption | omega | grind)) hn | (first | with_reducible assumption | omega | grind))

theorem q_f_M_isOutcome {N : Nat} (hN : zBig ≤ N) {σ0 : zS} {σ : zS} {x1 : Int32} {x2 : Int32} {Q : (Int32) → Prop} (hJ : PGJ σ0 σ) (hP : (0 ≤ x1 ∧ x1 < 8000) ∧ (0 ≤ x2 ∧ x2 < 8000)) (hQ : ∀ r, Q r) : zq (zf_M_isOutcome N σ x1 x2) Q := by
  unfold zf_M_isOutcome
  have nt := hJ.nt
  have nf := hJ.nf
  exact q_b_M_isOutcome_5 hN (σ0 := σ0) hJ hQ N 1 0 (by (first | with_reducible assumption | omega | grind)) (by exact zmu_lt hN _)

theorem q_b_M_lastKind_2 {N : Nat} (hN : zBig ≤ N) {σ0 : zS} {σ : zS} {Q : (Int32) → Prop} (hJ : JN σ0 σ) (hQ : ∀ r, Q r) : ∀ (n : Nat) (v1 : Int32), (0 ≤ v1) → zmu v1 < n → zq (zb_M_lastKind_2 N n σ v1) Q := by
  intro n
  induction n with
  | zero => intro _ _ hn; exact absurd hn (Nat.not_lt_zero _)
  | succ n ih =>
    intro v1 hI hn
    rw [zb_M_lastKind_2]
    have nt := hJ.pg.nt
    refine zq_ite (fun c1 => ?_) fun c1 => ?_
    ·
      exact hQ _
    ·
      refine zq_bind (q_f_M_stateOf (by (first | with_reducible assumption | omega | grind)) fun r2 pr2 => ?_)
      refine zq_ite (fun c2 => ?_) fun c2 => ?_
      ·
        show zq (zb_M_lastKind_32 (zb_M_lastKind_2 N n) N σ v1) Q
        unfold zb_M_lastKind_32
        exact ih (v1 + 1) (by (first | with_reducible assumption | omega | grind)) (by first | exact zmu_up (by assumption) hn | exact zmu_up (b := 2147483647) (by (first | with_reducible assumption | omega | grind)) hn | (first | with_reducible assumption | omega | grind))
      ·
        refine zq_ite (fun c3 => ?_) fun c3 => ?_
        ·
          show zq (zb_M_lastKind_32 (zb_M_lastKind_2 N n) N σ v1) Q
          unfold zb_M_lastKind_32
          exact ih (v1 + 1) (by (first | with_reducible assumption | omega | grind)) (by first | exact zmu_up (by assumption) hn | exact zmu_up (b := 2147483647) (by (first | with_reducible assumption | omega | grind)) hn | (first | with_reducible assumption | omega | grind))
        ·
          refine zq_ite (fun c4 => ?_) fun c4 => ?_
          ·
            show zq (zb_M_lastKind_32 (zb_M_lastKind_2 N n) N σ v1) Q
            unfold zb_M_lastKind_32
            exact ih (v1 + 1) (by (first | with_reducible assumption | omega | grind)) (by first | exact zmu_up (by assumption) hn | exact zmu_up (b := 2147483647) (by (first | with_reducible assumption | omega | grind)) hn | (first | with_reducible assumption | omega | grind))
          ·
            exact hQ _

theorem q_f_M_lastKind {N : Nat} (hN : zBig ≤ N) {σ0 : zS} {σ : zS} {Q : (Int32) → Prop} (hJ : JN σ0 σ) (hQ : ∀ r, Q r) : zq (zf_M_lastKind N σ) Q := by
  unfold zf_M_lastKind
  have nt := hJ.pg.nt
  exact q_b_M_lastKind_2 hN hJ hQ N 0 (by (first | with_reducible assumption | omega | grind)) (by exact zmu_lt hN _)
/-! THE RUN -/
theorem q_f_M_forget {N : Nat} (hN : zBig ≤ N) {σ : zS} {x1 : Int32} {Q : zS → Prop} (hQ : ∀ r, (∀ q, q ≠ 82 → q ≠ 109 → r q = σ q) → (∀ i, i ≠ 51 → i ≠ 52 → r 82 i = σ 82 i) → r 82 51 = x1 → r 82 52 = 0 → (∀ h : Nat, h < 8192 → r 109 h = -1) → Q r) : zq (zf_M_forget N σ x1) Q := by
  have H : ∀ (n : Nat) (ρ : zS) (v2 : Int32), (∀ q, q ≠ 109 → ρ q = σ q) → (∀ h : Nat, h < v2.toNatClampNeg → ρ 109 h = -1) → 0 ≤ v2 → v2 ≤ 8192 → zmu v2 < n → zq (zb_M_forget_2 N n ρ x1 v2) Q := by
    intro n
    induction n with
    | zero => intro _ _ _ _ _ _ hn; exact absurd hn (Nat.not_lt_zero _)
    | succ n ih =>
      intro ρ v2 hf hk h0 h8 hn
      rw [zb_M_forget_2]
      refine zq_ite (fun c1 => ?_) fun c1 => ?_
      · have e : v2 = 8192 := by (first | with_reducible assumption | omega | grind)
        subst e
        refine hQ _ (fun q a b => ?_) (fun i a b => ?_) ?_ ?_ (fun h hh => ?_)
        · rw [zu_other a, zu_other a]; exact hf q b
        · rw [zx_up_same, zu_ne b, zx_up_same, zu_ne a, hf 82 (by decide)]
        · rw [zx_up_same, zu_ne (by decide), zx_up_same, zu_eq]
        · rw [zx_up_same, zu_eq]
        · rw [zu_other (by decide), zu_other (by decide)]
          exact hk h hh
      · have hv : 0 ≤ v2 ∧ v2 < 8192 := by (first | with_reducible assumption | omega | grind)
        refine zq_chk hv fun c2 => ?_
        refine ih _ (v2 + 1) (fun q a => by rw [zu_other a]; exact hf q a) ?_ (by (first | with_reducible assumption | omega | grind)) (by (first | with_reducible assumption | omega | grind)) (zmu_up c1 hn)
        intro h hh
        rw [z_succn h0 hv.2] at hh
        rw [zx_up_same]
        by_cases q : h = v2.toNatClampNeg
        · rw [q, zu_eq]
        · rw [zu_ne q]; exact hk h (by omega)
  exact H N σ 0 (fun _ _ => rfl) (fun i hi => absurd hi (Nat.not_lt_zero _)) (by decide) (by decide) (zmu_lt hN _)
theorem RP.up {σ : zS} {s : Int32} {q i : Nat} {v : Int32} (hq : q = 112 ∨ q = 113 ∨ q = 116 ∨ q = 117) (h : RP σ s) : RP (zx_up σ q i v) s := by
  have E : ∀ p, p ≠ q → (zx_up σ q i v) p = σ p := fun p hp => zu_other hp
  obtain ⟨a, b, c, d, f, g, k⟩ := h
  refine ⟨PG.of (fun p _ x => E p (by omega)) a, b.of (fun p hp => E p (by omega)), ?_, ?_, ?_, ?_, ?_⟩
  · rw [E 82 (by omega)]; exact c
  · rw [E 82 (by omega), E 111 (by omega)]; exact d
  · rw [E 82 (by omega)]; exact f
  · rw [E 82 (by omega), E 115 (by omega)]; exact g
  · rw [E 82 (by omega), E 114 (by omega)]; exact k
theorem RP.mono {σ : zS} {s t : Int32} (hst : s ≤ t) (h : RP σ s) : RP σ t :=
  ⟨h.pg, h.ri, h.f0, h.cf, ⟨h.oc.1, Int32.le_trans h.oc.2 hst⟩, h.ou, h.ra⟩
theorem RP.out {σ : zS} {s : Int32} (h : RP σ s) (hs : 0 ≤ s ∧ s < σ 82 52) : RP (zx_up (zx_up σ 115 (σ 82 60).toNatClampNeg s) 82 60 (σ 82 60 + 1)) (s + 1) := by
  have E : ∀ p, p ≠ 82 → p ≠ 115 → (zx_up (zx_up σ 115 (σ 82 60).toNatClampNeg s) 82 60 (σ 82 60 + 1)) p = σ p := fun p a b => by rw [zu_other a, zu_other b]
  have E2 : ∀ i, i ≠ 60 → (zx_up (zx_up σ 115 (σ 82 60).toNatClampNeg s) 82 60 (σ 82 60 + 1)) 82 i = σ 82 i := fun i a => by rw [zx_up_same, zu_ne a, zu_other (by decide)]
  have E60 : (zx_up (zx_up σ 115 (σ 82 60).toNatClampNeg s) 82 60 (σ 82 60 + 1)) 82 60 = σ 82 60 + 1 := by rw [zx_up_same, zu_eq]
  have E115 : (zx_up (zx_up σ 115 (σ 82 60).toNatClampNeg s) 82 60 (σ 82 60 + 1)) 115 = zu (σ 115) (σ 82 60).toNatClampNeg s := by rw [zu_other (by decide), zx_up_same]
  generalize zx_up (zx_up σ 115 (σ 82 60).toNatClampNeg s) 82 60 (σ 82 60 + 1) = R at *
  obtain ⟨a, ⟨b1, b2, b3, b4, b5⟩, c, d, f, g, k⟩ := h
  refine ⟨PG.of2 (fun p x y => E p x (by omega)) ⟨E2 _ (by decide), E2 _ (by decide), E2 _ (by decide), E2 _ (by decide)⟩ a, ⟨?_, ?_, ?_, ?_, ?_⟩, ?_, ?_, ?_, ?_, ?_⟩
  · rw [E2 52 (by decide)]; exact b1
  · rw [E2 51 (by decide)]; exact b2
  · rw [E2 51 (by decide), E2 52 (by decide), E 109 (by decide) (by decide)]; exact b3
  · rw [E2 51 (by decide), E2 52 (by decide), E 110 (by decide) (by decide)]; exact b4
  · rw [E2 51 (by decide), E2 52 (by decide), E 108 (by decide) (by decide), E 90 (by decide) (by decide), E 93 (by decide) (by decide), E2 17 (by decide)]; exact b5
  · rw [E2 51 (by decide)]; exact c
  · rw [E2 52 (by decide), E 111 (by decide) (by decide)]; exact d
  · rw [E60]; clear E E2 E60 E115 a b2 b3 b4 b5 c d g k; (first | with_reducible assumption | omega | grind)
  · rw [E60, E2 52 (by decide), E115]
    intro k k0 k1
    by_cases w : k = σ 82 60
    · rw [w, zu_eq]; exact hs
    · rw [zu_ne (fun e => w (z_inj k0 f.1 e))]
      exact g k k0 (by (first | with_reducible assumption | omega | grind))
  · rw [E2 52 (by decide), E 114 (by decide) (by decide)]; exact k
theorem RP.race {σ r : zS} {s : Int32} (h : RP σ s) (e : ∀ q, q ≠ 114 → r q = σ q) (k : ∀ i, i < 9216 → 0 ≤ r 114 i ∧ r 114 i ≤ σ 82 52) : RP r s := by
  obtain ⟨a, b, c, d, f, g, _⟩ := h
  refine ⟨PG.of (fun q _ x => e q (by omega)) a, b.of (fun q hq => e q (by omega)), ?_, ?_, ?_, ?_, ?_⟩
  · rw [e 82 (by decide)]; exact c
  · rw [e 82 (by decide), e 111 (by decide)]; exact d
  · rw [e 82 (by decide)]; exact f
  · rw [e 82 (by decide), e 115 (by decide)]; exact g
  · rw [e 82 (by decide)]; exact k
def KR (σb ρ : zS) (s : Int32) : Prop :=
  (FQ σb ρ) ∧
  (RP ρ s) ∧
  (ρ 82 53 = 0) ∧
  (ρ 82 62 = -1)
theorem KR.fq {σb ρ : zS} {s : Int32} (h : KR σb ρ s) : FQ σb ρ := h.1
theorem KR.rp {σb ρ : zS} {s : Int32} (h : KR σb ρ s) : RP ρ s := h.2.1
theorem KR.z3 {σb ρ : zS} {s : Int32} (h : KR σb ρ s) : ρ 82 53 = 0 := h.2.2.1
theorem KR.z2 {σb ρ : zS} {s : Int32} (h : KR σb ρ s) : ρ 82 62 = -1 := h.2.2.2
theorem FQ.pt {σ r : zS} {v : Int32} (p : PT σ r v) : FQ σ r := ⟨fun q a b => p.fr q b (by omega) (by omega) (by omega), fun i _ _ c _ _ _ _ => p.ff i c⟩
theorem KR.jn {σb ρ r : zS} {s : Int32} (h : KR σb ρ s) (j : JN ρ r) : KR σb r s := ⟨h.fq.trans (FQ.jn j), h.rp.jn j, by rw [j.fr 82 (by decide)]; exact h.z3, by rw [j.fr 82 (by decide)]; exact h.z2⟩
theorem KR.jz {σb ρ : zS} {s : Int32} (h : KR σb ρ s) : JZ ρ ρ := ⟨fun _ _ => rfl, h.rp.pg⟩
theorem KR.row {σb ρ : zS} {s : Int32} (h : KR σb ρ s) {t : Int32} (ht : 0 ≤ t ∧ t < ρ 82 52) : (0 ≤ t ∧ t < 8000) ∧ NW (fun i => ρ 108 (40 * t.toNatClampNeg + i)) (ρ 90) (ρ 93) (ρ 82 17) := by
  have f0 := h.rp.f0
  have fo := h.rp.ri.fo
  exact ⟨by (first | with_reducible assumption | omega | grind), h.rp.ri.rw t (by rw [f0]; exact ht.1) (by rw [f0, Int32.zero_add]; exact ht.2)⟩
theorem q_f_M_run {N : Nat} (hN : zBig ≤ N) {σ : zS} {Q : Int32 × zS → Prop} (hG : ¬ σ 82 21 = 0 → PG σ) (hQ : ∀ r, FQ σ r.2 → (r.2 82 53 = 0 ∨ (¬ σ 82 21 = 0 ∧ RR r.2) ∨ (σ 82 21 = 0 ∧ r.2 82 53 = σ 82 53)) → (r.2 82 62 = -1 ∨ (σ 82 21 = 0 ∧ r.2 82 62 = σ 82 62)) → Q r) : zq (zf_M_run N σ) Q := by
  by_cases c0 : σ 82 21 = 0
  · unfold zf_M_run
    refine zq_ite (fun c => absurd c0 c) fun c1 => ?_
    refine hQ _ (FQ.up82 (by simp) (FQ.refl σ)) (Or.inr (Or.inr ⟨c0, ?_⟩)) (Or.inr ⟨c0, ?_⟩)
    · show (zx_up σ 82 0 0) 82 53 = σ 82 53
      rw [zx_up_same, zu_ne (by decide)]
    · show (zx_up σ 82 0 0) 82 62 = σ 82 62
      rw [zx_up_same, zu_ne (by decide)]
  have K208 : ∀ (k68 : zS → Int32 → Option (Int32 × zS)) (v2 : Int32), (∀ r, KR σ r (v2 + 1) → v2 + 1 ≤ r 82 52 → zq (k68 r (v2 + 1)) Q) → ∀ (n : Nat) (ρ : zS) (v4 v5 : Int32), KR σ ρ v2 → 0 ≤ v2 ∧ v2 < ρ 82 52 → 0 ≤ v5 → zmu v5 < n → zq (zb_M_run_208 k68 N n ρ v2 v4 v5) Q := by
    intro k68 v2 hk n ρ v4 v5 hK h2 h0 hn
    have fo := hK.rp.ri.fo
    have oc := hK.rp.oc
    have out : ∀ v4, zq (zb_M_run_250 k68 N ρ v2 v4) Q := by
      intro v4
      unfold zb_M_run_250
      refine zq_ite (fun c => ?_) fun c => ?_
      · exact hk _ ⟨hK.fq, hK.rp.mono (by (first | with_reducible assumption | omega | grind)), hK.z3, hK.z2⟩ (by (first | with_reducible assumption | omega | grind))
      · refine zq_chk (by (first | with_reducible assumption | omega | grind)) fun _ => ?_
        refine hk _ ⟨FQ.up82 (by simp) (FQ.up (by decide) hK.fq), hK.rp.out h2, ?_, ?_⟩ ?_
        · rw [zx_up_same, zu_ne (by decide), zu_other (by decide)]; exact hK.z3
        · rw [zx_up_same, zu_ne (by decide), zu_other (by decide)]; exact hK.z2
        · rw [zx_up_same, zu_ne (by decide), zu_other (by decide)]; (first | with_reducible assumption | omega | grind)
    induction n generalizing v4 v5 with
    | zero => exact absurd hn (Nat.not_lt_zero _)
    | succ n ih =>
      rw [zb_M_run_208]
      refine zq_ite (fun c1 => out v4) fun c1 => ?_
      refine zq_ite (fun c2 => out v4) fun c2 => ?_
      refine zq_chk (by (first | with_reducible assumption | omega | grind)) fun c3 => ?_
      have ou := hK.rp.ou v5 h0 (Int32.not_le.mp c1)
      refine zq_bind (q_f_M_isOutcome hN (σ0 := ρ) hK.rp.pg ⟨by (first | with_reducible assumption | omega | grind), by (first | with_reducible assumption | omega | grind)⟩ fun r19 => ?_)
      refine zq_ite (fun c => ?_) fun c => ?_
      · exact ih 0 (v5 + 1) (by (first | with_reducible assumption | omega | grind)) (zmu_up c1 hn)
      · exact ih 1 (v5 + 1) (by (first | with_reducible assumption | omega | grind)) (zmu_up c1 hn)
  have K91 : ∀ (k68 : zS → Int32 → Option (Int32 × zS)) (v2 : Int32), (∀ r, KR σ r (v2 + 1) → v2 + 1 ≤ r 82 52 → zq (k68 r (v2 + 1)) Q) → ∀ (n : Nat) (ρ : zS) (v3 v4 : Int32), KR σ ρ v2 → 0 ≤ v2 ∧ v2 < ρ 82 52 → 0 ≤ v4 → zmu v4 < n → zq (zb_M_run_91 k68 N n ρ v2 v3 v4) Q := by
    intro k68 v2 hk n
    induction n with
    | zero => intro _ _ _ _ _ _ hn; exact absurd hn (Nat.not_lt_zero _)
    | succ n ih =>
      intro ρ v3 v4 hK h2 h0 hn
      have row := hK.row h2
      rw [zb_M_run_91]
      refine zq_ite (fun c1 => ?_) fun c1 => ?_
      · refine zq_bind (q_f_M_load hN hK.jz row.1 row.2 fun r10 j10 => ?_)
        have hK2 := hK.jn j10
        have e52 : r10 82 52 = ρ 82 52 := by rw [j10.fr 82 (by decide)]
        have fo := hK.rp.ri.fo
        have end197 : ∀ s0, zq (zb_M_run_197 k68 N r10 v2 v3 s0 v2) Q := by
          intro s0
          unfold zb_M_run_197
          refine zq_chk (by (first | with_reducible assumption | omega | grind)) fun _ => ?_
          have hK3 : KR σ (zx_up r10 113 v2.toNatClampNeg s0) v2 := ⟨FQ.up (by decide) hK2.fq, hK2.rp.up (by simp), by rw [zu_other (by decide)]; exact hK2.z3, by rw [zu_other (by decide)]; exact hK2.z2⟩
          have e3 : (zx_up r10 113 v2.toNatClampNeg s0) 82 52 = ρ 82 52 := by rw [zu_other (by decide)]; exact e52
          refine zq_ite (fun c => ?_) fun c => ?_
          · exact hk _ ⟨hK3.fq, hK3.rp.mono (by (first | with_reducible assumption | omega | grind)), hK3.z3, hK3.z2⟩ (by rw [e3]; (first | with_reducible assumption | omega | grind))
          · exact K208 k68 v2 hk N _ 1 0 hK3 (by rw [e3]; exact h2) (by decide) (zmu_lt hN _)
        refine zq_ite (fun c => end197 0) fun c => ?_
        exact zq_bind (q_f_M_lastKind hN j10.refl fun r21 => end197 r21)
      · have nt := hK.rp.pg.nt
        refine zq_bind (q_f_M_load hN hK.jz row.1 row.2 fun r22 j22 => ?_)
        have hK2 := hK.jn j22
        have e82 : r22 82 = ρ 82 := j22.fr 82 (by decide)
        have hx : 0 ≤ v4 ∧ v4 < r22 82 17 := by rw [e82]; (first | with_reducible assumption | omega | grind)
        refine zq_bind (q_f_M_canStep j22.refl hx fun r23 p23 => ?_)
        refine zq_ite (fun c2 => ?_) fun c2 => ?_
        · exact ih _ _ (v4 + 1) hK2 (by rw [e82]; exact h2) (by (first | with_reducible assumption | omega | grind)) (zmu_up c1 hn)
        · refine zq_bind (q_f_M_doStep hN j22.refl hx (p23.resolve_left c2) fun r25 j25 => ?_)
          have hK3 := hK2.jn j25
          have e82' : r25 82 = ρ 82 := (j25.fr 82 (by decide)).trans e82
          refine zq_bind (q_f_M_put hN hK3.rp.ri (fun t => (hK3.rp.pg.st t).2) hK3.rp.pg.nt.2 j25.nw fun r26 p26 => ?_)
          have mn : ρ 82 52 ≤ r26.2 82 52 := by have := p26.fo.1; rw [e82'] at this; exact this
          have z3 : r26.2 82 53 = 0 := by rw [p26.ff 53 (by decide)]; exact hK3.z3
          have z2 : r26.2 82 62 = -1 := by rw [p26.ff 62 (by decide)]; exact hK3.z2
          refine zq_ite (fun c3 => ?_) fun c3 => ?_
          · have P := hK3.rp.put p26 ⟨h2.1, Or.inl (by rw [e82']; exact h2.2)⟩ c3 v4
            refine zq_ite (fun c4 => ?_) fun c4 => ?_
            · exact ih _ _ (v4 + 1) ⟨hK3.fq.trans (FQ.pt p26), P.1 c4, z3, z2⟩ ⟨h2.1, Int32.lt_of_lt_of_le h2.2 mn⟩ (by (first | with_reducible assumption | omega | grind)) (zmu_up c1 hn)
            · have P2 := P.2.1 c4
              refine zq_chk P2.1 fun _ => zq_chk P2.1 fun _ => ?_
              refine ih _ _ (v4 + 1) ⟨FQ.up (by decide) (FQ.up (by decide) (hK3.fq.trans (FQ.pt p26))), P2.2, ?_, ?_⟩ ⟨h2.1, ?_⟩ (by (first | with_reducible assumption | omega | grind)) (zmu_up c1 hn)
              · rw [zu_other (by decide), zu_other (by decide)]; exact z3
              · rw [zu_other (by decide), zu_other (by decide)]; exact z2
              · rw [zu_other (by decide), zu_other (by decide)]; exact Int32.lt_of_lt_of_le h2.2 mn
          · exact hQ _ (hK3.fq.trans (FQ.pt p26)) (Or.inl z3) (Or.inl z2)
  have K68 : ∀ (n : Nat) (ρ : zS) (v2 : Int32), KR σ ρ v2 → 0 ≤ v2 ∧ v2 ≤ ρ 82 52 → zmu v2 < n → zq (zb_M_run_68 N n ρ v2) Q := by
    intro n
    induction n with
    | zero => intro _ _ _ _ hn; exact absurd hn (Nat.not_lt_zero _)
    | succ n ih =>
      intro ρ v2 hK h2 hn
      rw [zb_M_run_68]
      refine zq_ite (fun c1 => ?_) fun c1 => ?_
      · refine hQ _ (FQ.up82 (by simp) (FQ.up82 (by simp) hK.fq)) (Or.inr (Or.inl ⟨c0, ?_⟩)) (Or.inl ?_)
        · show RR (zx_up (zx_up ρ 82 54 (ρ 82 52)) 82 53 1)
          have E : ∀ p, p ≠ 82 → (zx_up (zx_up ρ 82 54 (ρ 82 52)) 82 53 1) p = ρ p := fun p a => by rw [zu_other a, zu_other a]
          have E54 : (zx_up (zx_up ρ 82 54 (ρ 82 52)) 82 53 1) 82 54 = ρ 82 52 := by rw [zx_up_same, zu_ne (by decide), zx_up_same, zu_eq]
          have E60 : (zx_up (zx_up ρ 82 54 (ρ 82 52)) 82 53 1) 82 60 = ρ 82 60 := by rw [zx_up_same, zu_ne (by decide), zx_up_same, zu_ne (by decide)]
          have fo := hK.rp.ri.fo
          have oc := hK.rp.oc
          refine ⟨by rw [E54]; exact fo, by rw [E54, E 111 (by decide)]; exact hK.rp.cf, by rw [E60]; (first | with_reducible assumption | omega | grind), by rw [E60, E54, E 115 (by decide)]; exact hK.rp.ou, by rw [E54, E 114 (by decide)]; exact hK.rp.ra, ?_⟩
          have E17 : (zx_up (zx_up ρ 82 54 (ρ 82 52)) 82 53 1) 82 17 = ρ 82 17 := by rw [zx_up_same, zu_ne (by decide), zx_up_same, zu_ne (by decide)]
          rw [E54, E 108 (by decide), E 90 (by decide), E 93 (by decide), E17]
          intro s s0 s1
          exact (hK.row ⟨s0, s1⟩).2
        · show (zx_up (zx_up ρ 82 54 (ρ 82 52)) 82 53 1) 82 62 = -1
          rw [zx_up_same, zu_ne (by decide), zx_up_same, zu_ne (by decide)]
          exact hK.z2
      · have h2' : 0 ≤ v2 ∧ v2 < ρ 82 52 := by (first | with_reducible assumption | omega | grind)
        have row := hK.row h2'
        refine zq_bind (q_f_M_load hN hK.jz row.1 row.2 fun r7 j7 => ?_)
        have hK2 := hK.jn j7
        have e82 : r7 82 = ρ 82 := j7.fr 82 (by decide)
        refine zq_bind (q_f_M_lookForRaces hN j7.refl (by rw [e82]; exact h2') hK2.rp.ri.fo.2 hK2.rp.ra fun r8 e8 a8 => ?_)
        have e8' : r8 82 = ρ 82 := (e8 82 (by decide)).trans e82
        have hK3 : KR σ r8 v2 := ⟨hK2.fq.trans ⟨fun q a b => e8 q (by omega), fun i _ _ _ _ _ _ _ => by rw [e8 82 (by decide)]⟩, hK2.rp.race e8 a8, by rw [e8']; exact hK.z3, by rw [e8']; exact hK.z2⟩
        exact K91 _ v2 (fun r jr hr => ih r (v2 + 1) jr ⟨by (first | with_reducible assumption | omega | grind), hr⟩ (zmu_up c1 hn)) N r8 1 0 hK3 (by rw [e8']; exact h2') (by decide) (zmu_lt hN _)
  have K37 : ∀ (n : Nat) (ρ : zS) (v1 : Int32), FQ σ ρ → PG ρ → (∀ h : Nat, h < 8192 → ρ 109 h = -1) → ρ 82 51 = 0 → ρ 82 52 = 0 → ρ 82 53 = 0 → ρ 82 60 = 0 → ρ 82 62 = -1 → (∀ i, i < v1.toNatClampNeg → ρ 114 i = 0) → 0 ≤ v1 → v1 ≤ 9216 → zmu v1 < n → zq (zb_M_run_37 N n ρ v1) Q := by
    intro n
    induction n with
    | zero => intro _ _ _ _ _ _ _ _ _ _ _ _ _ hn; exact absurd hn (Nat.not_lt_zero _)
    | succ n ih =>
      intro ρ v1 hF hP hd h51 h52 h53 h60 h62 hr h0 h9 hn
      rw [zb_M_run_37]
      refine zq_ite (fun c1 => ?_) fun c1 => ?_
      · have e : v1 = 9216 := by (first | with_reducible assumption | omega | grind)
        subst e
        refine zq_bind (q_f_M_firstState hN (σ0 := ρ) ⟨fun _ _ => rfl, hP⟩ fun r4 j4 => ?_)
        have e82 : r4 82 = ρ 82 := j4.fr 82 (by decide)
        have rp : RP r4 0 := by
          refine ⟨j4.pg, ⟨by rw [e82, h52]; decide, by rw [e82, h51]; exact Or.inl rfl, ?_, ?_, ?_⟩, by rw [e82]; exact h51, ?_, by rw [e82, h60]; decide, ?_, ?_⟩
          · intro h hh; rw [j4.fr 109 (by decide)]; exact Or.inl (hd h hh)
          · intro s a b; rw [e82, h51] at a b; rw [h52] at b; exact absurd b (by (first | with_reducible assumption | omega | grind))
          · intro s a b; rw [e82, h51] at a b; rw [h52] at b; exact absurd b (by (first | with_reducible assumption | omega | grind))
          · intro t a b; rw [e82, h52] at b; exact absurd b (by (first | with_reducible assumption | omega | grind))
          · intro k a b; rw [e82, h60] at b; exact absurd b (by (first | with_reducible assumption | omega | grind))
          · intro i hi; rw [e82, h52, j4.fr 114 (by decide), hr i hi]; decide
        refine zq_bind (q_f_M_put hN rp.ri (fun t => (rp.pg.st t).2) rp.pg.nt.2 j4.nw fun r5 p5 => ?_)
        have rp5 : RP r5.2 0 := by
          by_cases c : r5.1 = -1
          · -- nothing was put: the table is as it was
            have fo := p5.fo
            have e51 := p5.ff 51 (by decide); have e60 := p5.ff 60 (by decide)
            have e52 : r5.2 82 52 = r4 82 52 := by
              by_cases q : r5.2 82 52 = r4 82 52
              · exact q
              · have := p5.nw q
                rw [c, e82, h51, h52] at this
                exact absurd this (by decide)
            have e111 := p5.fr 111 (by decide) (by decide) (by decide) (by decide); have e115 := p5.fr 115 (by decide) (by decide) (by decide) (by decide); have e114 := p5.fr 114 (by decide) (by decide) (by decide) (by decide)
            refine ⟨PG.of2 (fun q x y => p5.fr q x (by omega) (by omega) (by omega)) ⟨p5.ff _ (by decide), p5.ff _ (by decide), p5.ff _ (by decide), p5.ff _ (by decide)⟩ rp.pg, p5.ri, by rw [e51]; exact rp.f0, by rw [e52, e111]; exact rp.cf, by rw [e60]; exact rp.oc, by rw [e60, e52, e115]; exact rp.ou, by rw [e52, e114]; exact rp.ra⟩
          · exact (rp.put p5 ⟨by decide, Or.inr (by rw [e82]; exact h52)⟩ c 0).2.2 (by rw [e82]; exact h52)
        refine K68 N r5.2 0 ⟨hF.trans ((FQ.jn j4).trans (FQ.pt p5)), rp5, by rw [p5.ff 53 (by decide), e82]; exact h53, by rw [p5.ff 62 (by decide), e82]; exact h62⟩ ⟨by decide, rp5.ri.fo.1⟩ (zmu_lt hN _)
      · have hv : 0 ≤ v1 ∧ v1 < 9216 := by (first | with_reducible assumption | omega | grind)
        refine zq_chk hv fun _ => ?_
        have E : ∀ p, p ≠ 114 → (zx_up ρ 114 v1.toNatClampNeg 0) p = ρ p := fun p a => zu_other a
        have E82 := E 82 (by decide)
        refine ih _ (v1 + 1) (FQ.up (by decide) hF) (PG.of (fun q _ b => E q (by omega)) hP) (by rw [E 109 (by decide)]; exact hd) (by rw [E82]; exact h51) (by rw [E82]; exact h52) (by rw [E82]; exact h53) (by rw [E82]; exact h60) (by rw [E82]; exact h62) ?_ (by (first | with_reducible assumption | omega | grind)) (by (first | with_reducible assumption | omega | grind)) (zmu_up c1 hn)
        intro i hi
        rw [z_succn h0 hv.2] at hi
        rw [zx_up_same]
        by_cases q : i = v1.toNatClampNeg
        · rw [q, zu_eq]
        · rw [zu_ne q]; exact hr i (by omega)
  unfold zf_M_run
  refine zq_ite (fun c1 => ?_) fun c1 => ?_
  · refine zq_bind (q_f_M_forget hN fun r2 a b c d e => ?_)
    have hF : FQ σ (zx_up (zx_up (zx_up σ 82 0 0) 82 53 0) 82 62 (-1)) := FQ.up82 (by simp) (FQ.up82 (by simp) (FQ.up82 (by simp) (FQ.refl σ)))
    have hF2 : FQ σ r2 := hF.trans ⟨fun q x y => a q y (by omega), fun i _ x y _ _ _ _ => b i x y⟩
    have hF3 : FQ σ (zx_up r2 82 60 0) := FQ.up82 (by simp) hF2
    have E : ∀ i, i ≠ 60 → (zx_up r2 82 60 0) 82 i = r2 82 i := fun i h => by rw [zx_up_same, zu_ne h]
    refine K37 N _ 0 hF3 (hF3.pg (hG c1)) (by rw [zu_other (by decide)]; exact e) (by rw [E _ (by decide)]; exact c) (by rw [E _ (by decide)]; exact d) ?_ (by rw [zx_up_same, zu_eq]) ?_ (fun i hi => absurd hi (Nat.not_lt_zero _)) (by decide) (by decide) (zmu_lt hN _)
    · rw [E _ (by decide), b 53 (by decide) (by decide), zx_up_same, zu_ne (by decide), zx_up_same, zu_eq]
    · rw [E _ (by decide), b 62 (by decide) (by decide), zx_up_same, zu_eq]
  · exact absurd (Decidable.not_not.mp c1) c0
