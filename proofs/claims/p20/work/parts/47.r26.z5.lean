-- both answer alike
set_option maxRecDepth 2000
def cw (σ : zS) : Nat := (σ 4 2).toNatClampNeg
def lw (σ : zS) (t : Nat) : Nat := (σ 5 t).toNatClampNeg
def JV (σ : zS) : Prop := σ 2 13 = 1 → (∀ b, b < 4 → SPB σ b) ∧ JDN σ (cw σ) (lw σ) ∧ JDD σ (cw σ) (lw σ) ∧ (SLT σ ∧ FLG σ σ)
def EQJ (σ : zS) (τ : zT) : Prop := EQW σ τ ∧ JV σ
theorem cw_of {σ r : zS} (e : r 4 = σ 4) : cw r = cw σ := by unfold cw; rw [e]
theorem lw_of {σ r : zS} (e : r 5 = σ 5) : lw r = lw σ := by funext t; unfold lw; rw [e]
theorem SPB.of {σ r : zS} {b : Nat} (h : SPB σ b) (e : ∀ q, 5 ≤ q ∧ q ≤ 8 → r q = σ q) : SPB r b := by
  unfold SPB at *
  rw [e 5 (by decide), e 6 (by decide), e 7 (by decide), e 8 (by decide)]
  exact h
theorem JDN.of {σ r : zS} {c2 : Nat} {len : Nat → Nat} (h : JDN σ c2 len) (e : ∀ q, 6 ≤ q ∧ q ≤ 10 → r q = σ q) (f : ∀ q, q = 76 ∨ q = 77 → r q = σ q) : JDN r c2 len := by
  intro g a b ha hb s hs
  rw [f 76 (Or.inl rfl)] at g
  rw [f 77 (Or.inr rfl), h g a b ha hb s hs]
  exact (NEA.of e).symm
theorem JV.of {σ r : zS} (h : JV σ) (e2 : r 2 13 = σ 2 13) (e : ∀ q, 4 ≤ q ∧ q ≤ 12 → r q = σ q) (f : ∀ q, 76 ≤ q ∧ q ≤ 80 → r q = σ q) (e8 : r 88 = σ 88) : JV r := by
  intro w
  obtain ⟨a, b, g, u⟩ := h (e2.symm.trans w)
  refine ⟨fun b hb => (a b hb).of fun q hq => e q (by omega), ?_⟩
  rw [cw_of (e 4 (by decide)), lw_of (e 5 (by decide))]
  exact ⟨b.of (fun q hq => e q (by omega)) fun q hq => f q (by omega), g.of (e 4 (by decide)) (fun q hq => e q (by omega)) f, u.1.of (by rw [e 4 (by decide)]) (e 5 (by decide)) (e 7 (by decide)) (e 8 (by decide)), u.2.of (by rw [e 4 (by decide)]) (by rw [e 4 (by decide)]) e8⟩
theorem EQJ.x {σ r : zS} {τ : zT} (h : EQJ σ τ) (f : FX σ r ∧ FK σ r) (j : ∀ q, 82 ≤ q → r q = σ q) : EQJ r τ := ⟨h.1.x f.1 j, h.2.of (f.1.2 13 (by decide) (by decide) (by decide)) (fun q hq => f.1.1 q (by omega) (by omega)) (fun q hq => f.2 q hq) (j 88 (by decide))⟩
theorem EQJ.j {σ r : zS} {τ : zT} (h : EQJ σ τ) (f : FX σ r ∧ JV r) (j : ∀ q, 82 ≤ q → r q = σ q) : EQJ r τ := ⟨h.1.x f.1 j, f.2⟩
theorem EQJ.m {σ r : zS} {τ : zT} (h : EQJ σ τ) (f : FM σ r) : EQJ r τ := ⟨h.1.m f, h.2.of (by rw [f.1 2 (by decide) (by decide)]) (fun q hq => f.1 q (by omega) (by omega)) (fun q hq => f.1 q (by omega) (by omega)) (f.1 88 (by decide) (by decide))⟩
theorem EQJ.ended {σ r ρ : zS} {τ : zT} {x : Int32} (h : EQJ σ τ) (hr : ρ = zx_up σ 2 11 x ∨ ρ = σ) (f : (∀ q, q ≠ 82 → r q = ρ q) ∧ (∀ i, i ≠ 0 → i ≠ 2 → r 82 i = ρ 82 i)) : EQJ r τ := by
  have e : ∀ q, q ≠ 2 → q ≠ 82 → r q = σ q := fun q a b => by
    rw [f.1 q b]
    rcases hr with e | e
    · rw [e, zu_other a]
    · rw [e]
  refine ⟨h.1.ended hr f, h.2.of ?_ (fun q hq => e q (by omega) (by omega)) (fun q hq => e q (by omega) (by omega)) (e 88 (by decide) (by decide))⟩
  rw [f.1 2 (by decide)]
  rcases hr with e | e
  · rw [e, zx_up_same, zu_ne (by decide)]
  · rw [e]
theorem EQJ.feed {σ ρ r : zS} {τ υ : zT} {t n : Nat} {f : Nat → Int32} (h : EQJ σ τ) (u1 : υ 1 = τ 1) (a : (∀ q, q ≠ 2 → q ≠ 3 → ρ q = σ q) ∧ (∀ i, i ≠ 11 → ρ 2 i = σ 2 i) ∧ tape (σ 3) (ρ 3) t n f) (b : (∀ q, q ≠ 82 → q ≠ 83 → r q = ρ q) ∧ (∀ i, i ≠ 0 → i ≠ 2 → r 82 i = ρ 82 i) ∧ tape (ρ 83) (r 83) t n f) (hb : ∀ i, -128 ≤ f i ∧ f i ≤ 127) : EQJ r υ :=
  ⟨h.1.feed u1 a b hb, h.2.of (by rw [b.1 2 (by decide) (by decide), a.2.1 13 (by decide)]) (fun q hq => by rw [b.1 q (by omega) (by omega), a.1 q (by omega) (by omega)]) (fun q hq => by rw [b.1 q (by omega) (by omega), a.1 q (by omega) (by omega)]) (by rw [b.1 88 (by decide) (by decide), a.1 88 (by decide) (by decide)])⟩
theorem EQJ.full {σ r : zS} {τ : zT} (h : EQJ σ τ) (b : (∀ q, q ≠ 82 → q ≠ 83 → r q = σ q) ∧ (∀ i, i ≠ 0 → i ≠ 2 → r 82 i = σ 82 i) ∧ r 83 = σ 83) : EQJ r τ :=
  ⟨h.1.full b, h.2.of (by rw [b.1 2 (by decide) (by decide)]) (fun q hq => b.1 q (by omega) (by omega)) (fun q hq => b.1 q (by omega) (by omega)) (b.1 88 (by decide) (by decide))⟩
theorem EQJ.read {σ ρ r : zS} {τ υ : zT} (h : EQJ σ τ) (f : FRd σ ρ ∧ GRd τ υ) (hi : ∀ q, 82 ≤ q → ρ q = σ q) (lo : ∀ q, q < 82 → r q = ρ q) (n : FMr ρ r) (l : LO ρ r) (z : NWC σ ρ ∧ ((ρ 2 13 = 1 → ∀ b, b < 4 → SPB ρ b) ∧ ρ 76 5 = 0)) (fl : ρ 2 13 = 1 → FLG ρ r ∧ SLT ρ) : EQJ r υ := by
  refine ⟨h.1.read f hi lo n l z.1, fun w => ⟨fun b hb => ?_, fun g => ?_, fun g => ?_, ?_, ?_⟩⟩
  · rw [lo 2 (by decide)] at w
    exact (z.2.1 w b hb).of fun q hq => lo q (by omega)
  · rw [lo 76 (by decide)] at g
    exact absurd z.2.2 g
  · rw [lo 76 (by decide)] at g
    exact absurd z.2.2 g
  · rw [lo 2 (by decide)] at w
    exact (fl w).2.of (by rw [lo 4 (by decide)]) (lo 5 (by decide)) (lo 7 (by decide)) (lo 8 (by decide))
  · rw [lo 2 (by decide)] at w
    exact (fl w).1.of (by rw [lo 4 (by decide)]) (by rw [lo 4 (by decide)]) rfl
theorem EQJ.pj {σ : zS} {τ : zT} (h : EQJ σ τ) (li : LI σ) (ld : ¬ σ 2 13 = 0) : σ 2 13 = 1 ∧ σ 82 21 = 1 ∧ PJ σ (cw σ) (lw σ) ∧ JDN σ (cw σ) (lw σ) ∧ JDD σ (cw σ) (lw σ) ∧ FLD σ := by
  rcases h.1.1.2.2.2 with ⟨a, b⟩ | ⟨a, b, c, len, h1, h2, h3, h4, h5, h6, h7, h8, h9⟩
  · exact absurd a ld
  have pg : PG σ := li.gm.pg (by rw [b]; decide)
  obtain ⟨sp, jd, jt, u⟩ := h.2 a
  have ec : cw σ = c 2 := by
    unfold cw
    rw [(h2 2 (by decide)).1, zo_n (by omega)]
  have el : ∀ t, t < c 2 → lw σ t = len t := fun t ht => by
    unfold lw
    rw [(h3 t ht).2.1, zo_n (by have := (h3 t ht).1; omega)]
  have e17 : σ 82 17 = Int32.ofNat (c 2) := (h2 2 (by decide)).2
  have c06 := h8 0 (by decide)
  have f6 : σ 4 0 ≤ 6 := by
    rw [(h2 0 (by decide)).1]
    exact (zo_le (k := c 0) (j := 6) (by omega) (by omega)).mpr c06
  refine ⟨a, b, ?_, jd, jt, u.1, u.2, f6⟩
  rw [ec]
  refine ⟨h1, e17, fun t ht => by rw [el t ht]; exact h3 t ht, h4, fun t ht s hs => ?_, h.1.2, fun b hb => ⟨(sp b hb).1, fun t ht => ?_⟩⟩
  · rw [el t ht] at hs ⊢
    have l24 := (h3 t ht).1
    have sk := pg.ok (Int32.ofNat t) (Int32.ofNat s) ((zo_le (k := 0) (j := t) (by omega) (by omega)).mpr (Nat.zero_le _)) (by rw [e17]; exact (zo_lt (by omega) (by omega)).mpr ht) ((zo_le (k := 0) (j := s) (by omega) (by omega)).mpr (Nat.zero_le _)) (by rw [zo_n (m := t) (by omega), (h3 t ht).2.2]; exact (zo_lt (by omega) (by omega)).mpr hs)
    rw [(z24 (t := t) (by omega) (show s ≤ 24 by omega)).2.2.2, zo_n (m := 24 * t + s) (by omega), zo_n (m := t) (by omega), (h3 t ht).2.2] at sk
    have rng : ∀ x : Int32, (0 ≤ x ∧ x ≤ Int32.ofNat (len t)) → RNG x := fun x hx => by
      have n := z_nat hx.1
      have b := Int32.le_iff_toInt_le.mp hx.2
      rw [zo_ti (by omega)] at b
      exact Or.inr ⟨x.toNatClampNeg, by omega, (zo_mk hx.1).symm⟩
    exact ⟨h7 t s ht hs, h9 t s ht hs, rng _ sk.bh, fun k => rng _ (sk.ot k)⟩
  · rw [(sp b hb).2 t ht]
    constructor
    · rintro ⟨t4, s, a1, a2, a3⟩
      by_cases c : t < c 2
      · have l24 := (h3 t c).1
        rw [(h3 t c).2.1] at a2
        exact ⟨c, s, by rw [el t c]; exact (zo_lt (by omega) (by omega)).mp a2, a3⟩
      · rw [h4 t (by omega) t4] at a2
        have := (zo_lt (k := s) (j := 0) (by omega) (by omega)).mp a2
        omega
    · rintro ⟨c, s, a1, a3⟩
      have l24 := (h3 t c).1
      rw [el t c] at a1
      exact ⟨by omega, s, by omega, by rw [(h3 t c).2.1]; exact (zo_lt (by omega) (by omega)).mpr a1, a3⟩
theorem jv_prep {N : Nat} {σ : zS} {τ : zT} (li : LI σ) (ev : EQJ σ τ) (ld : ¬ σ 2 13 = 0) : zp (zf_Judge_prepare N σ) (fun r => JV r) := by
  obtain ⟨l1, _, pj, jd, jt, fd⟩ := ev.pj li ld
  refine zp_mono (p_prepareD pj fd jd jt) fun r ⟨f, j, j2, _⟩ w => ⟨fun b hb => ?_, ?_⟩
  · exact ((ev.2 l1).1 b hb).of fun q hq => f q (by omega)
  · rw [cw_of (f 4 (by decide)), lw_of (f 5 (by decide))]
    exact ⟨j, j2, fd.1.of (by rw [f 4 (by decide)]) (f 5 (by decide)) (f 7 (by decide)) (f 8 (by decide)), fd.2.1.of (by rw [f 4 (by decide)]) (by rw [f 4 (by decide)]) (f 88 (by decide))⟩
theorem jv_doubts {N : Nat} {σ : zS} {τ : zT} (li : LI σ) (ev : EQJ σ τ) : zp (zf_X_doubts N σ) (fun r => JV r.2) := by
  unfold zf_X_doubts
  exact zp_ite (fun ld => zp_bind (zp_mono (jv_prep li ev ld) fun r h => zp_some h)) fun _ => zp_some ev.2
theorem jv_doubt {N : Nat} {σ : zS} {τ : zT} {x1 x2 : Int32} (li : LI σ) (ev : EQJ σ τ) : zp (zf_X_doubt N σ x1 x2) (fun r => JV r.2) := by
  unfold zf_X_doubt
  exact zp_ite (fun ld => zp_bind (zp_mono (jv_prep li ev ld) fun r h => zp_bind fun _ _ => zp_bind fun _ _ => zp_some h)) fun _ => zp_some ev.2
theorem jv_meet {N : Nat} {σ : zS} {τ : zT} {x1 x2 x3 x4 : Int32} (li : LI σ) (ev : EQJ σ τ) : zp (zf_X_meet N σ x1 x2 x3 x4) (fun r => JV r.2) := by
  unfold zf_X_meet
  exact zp_ite (fun ld => zp_ite (fun _ => zp_some ev.2) fun _ => zp_bind fun _ _ => zp_ite (fun _ => zp_some ev.2) fun _ => zp_bind fun _ _ => zp_ite (fun _ => zp_bind (zp_mono (jv_prep li ev ld) fun r h => zp_bind fun _ _ => zp_ite (fun _ => zp_some h) fun _ => zp_some h)) fun _ => zp_some ev.2) fun _ => zp_some ev.2
theorem jv_rings {N : Nat} {σ : zS} {τ : zT} (li : LI σ) (ev : EQJ σ τ) : zp (zf_X_rings N σ) (fun r => JV r.2) := by
  unfold zf_X_rings
  exact zp_ite (fun ld => zp_bind (zp_mono (jv_prep li ev ld) fun r h => zp_some h)) fun _ => zp_some ev.2
theorem p_doubts7 {N : Nat} {σ : zS} {τ : zT} (li : LI σ) (ev : EQJ σ τ) : zp (zf_X_doubts N σ) (fun r => zp (zf_M_doubts N r.2) (fun s => r.1 = s.1)) := by
  rcases ev.1.1.2.2.2 with ⟨a, b⟩ | ⟨a, _⟩
  · unfold zf_X_doubts zf_M_doubts
    exact zp_ite (fun q => absurd a q) fun _ => zp_some (zp_ite (fun _ => zp_some rfl) fun q => absurd b q)
  · obtain ⟨l1, l2, pj, jd, jt, fd⟩ := ev.pj li (by rw [a]; decide)
    exact p_doubtsW pj fd l1 l2 jd jt
theorem p_doubt7 {N : Nat} {σ : zS} {τ : zT} {x1 x2 : Int32} (li : LI σ) (ev : EQJ σ τ) : zp (zf_X_doubt N σ x1 x2) (fun r => zp (zf_M_doubt N r.2 x1 x2) (fun s => r.1 = s.1)) := by
  rcases ev.1.1.2.2.2 with ⟨a, b⟩ | ⟨a, _⟩
  · unfold zf_X_doubt zf_M_doubt
    exact zp_ite (fun q => absurd a q) fun _ => zp_some (zp_ite (fun q => absurd b q) fun _ => zp_some rfl)
  · obtain ⟨l1, l2, pj, jd, jt, fd⟩ := ev.pj li (by rw [a]; decide)
    exact p_doubtW pj fd l1 l2 jd jt
