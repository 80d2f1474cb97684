-- both answer alike
set_option maxRecDepth 2000
def NSQ (t L d : Nat) (ρ : zS) (nc nb : Nat → Nat → Nat) (m : Nat → Nat) : Prop := (t < 4 ∧ L ≤ 24 ∧ d ≤ 8) ∧ (ρ 29 8 = Int32.ofNat t ∧ ρ 5 t = Int32.ofNat L ∧ ρ 29 6 = Int32.ofNat d) ∧ (ρ 4 2 = Int32.ofNat (t + 1) ∧ ∀ t', t < t' → t' < 4 → ρ 5 t' = 0) ∧ NSR t L ρ nc ∧ ((∀ l, l < 4 → nb 0 l = 0) ∧ (∀ i, i < d → EQ4 (nb (i + 1)) (INS (ρ 30 i) (ρ 31 i) (nb i))) ∧ (∀ l, l < 4 → (bit (ρ 29 11) l ↔ 0 < nb d l)) ∧ WYS t L ρ nc (ρ 29 9) (ρ 29 10) m ∧ (∀ i, i < d → BLK t L ρ nc i (nb i)) ∧ 0 < L ∧ (∀ s s', s < L → s' < 24 → (ρ 9 (24 * t + s) = Int32.ofNat s' ∨ ρ 10 (24 * t + s) = Int32.ofNat s') → s' < L)) ∧ OTN t ρ nc ∧ LST t L ρ
theorem NSQ.p {t L d : Nat} {ρ : zS} {nc nb : Nat → Nat → Nat} {m : Nat → Nat} (h : NSQ t L d ρ nc nb m) (e : EQ4 m (nb d)) : NSP t L d ρ nc nb := by
  obtain ⟨h1, h2, h3, h4, ⟨b1, b2, b3, b4, b5, b6, b7⟩, h6, h7⟩ := h
  exact ⟨h1, h2, h3, h4, ⟨b1, b2, b3, b4.ext (Nat.le_refl _) (fun _ _ => ⟨rfl, rfl, rfl⟩) e, b5, fun z => absurd b6 (by omega), b7⟩, h6, h7⟩
theorem NSQ.of {t L d : Nat} {ρ r : zS} {nc nb : Nat → Nat → Nat} {m : Nat → Nat} (h : NSQ t L d ρ nc nb m) (e : ∀ q, q = 5 ∨ q = 7 ∨ q = 8 ∨ q = 9 ∨ q = 10 ∨ q = 11 ∨ q = 30 ∨ q = 31 ∨ q = 32 ∨ q = 33 ∨ q = 34 → r q = ρ q) (e4 : r 4 2 = ρ 4 2) (f : ∀ i, i ≠ 12 → r 29 i = ρ 29 i) : NSQ t L d r nc nb m := by
  unfold NSQ NSR WYS BLK OTN NSR LST at *
  unfold WYS at *
  rw [e 5 (by decide), e 7 (by decide), e 8 (by decide), e 9 (by decide), e 10 (by decide), e 11 (by decide), e 30 (by decide), e 31 (by decide), e 32 (by decide), e 33 (by decide), e 34 (by decide), e4, f 6 (by decide), f 7 (by decide), f 8 (by decide), f 9 (by decide), f 10 (by decide), f 11 (by decide)]
  exact h
theorem NSP.put {t L d : Nat} {k x : Int32} {ρ r : zS} {nc nb : Nat → Nat → Nat} (h : NSP t L d ρ nc nb) (hk4 : k = 4 → ∀ l, l < 4 → x = Int32.ofNat l → 0 < nb d l) (hL : L < 24) (em : EM t L k x ρ r) : NSQ t (L + 1) d r (NCU nc (24 * t + L) (nb d)) nb (OUTN k x (nb d)) ∧ (r 29 7 = Int32.ofNat L ∧ EQ4 (NCU nc (24 * t + L) (nb d) (24 * t + L)) (nb d)) := by
  obtain ⟨⟨t4, _, d8⟩, h2, h3, hr, hb, oth, lst⟩ := h
  have put := hr.put hb d8 hk4 hL em
  obtain ⟨p1, p2, p3⟩ := hb.put hL em
  obtain ⟨b1, b2, b3, b4, b5, b6, b7⟩ := hb
  obtain ⟨fr, f4, _, f5, o5, ⟨k7, k8, k11, _⟩, o, l7, f29, ⟨w9, v9⟩, ⟨w10, v10⟩, n9, n10⟩ := em
  have g : ∀ q, q = 30 ∨ q = 31 → r q = ρ q := fun q hq => fr q (by omega) (by omega) (by omega) (by omega) (by omega) (by omega) (by omega) (by omega) (by omega)
  refine ⟨⟨⟨t4, by omega, d8⟩, ⟨by rw [f29 8 (by decide) (by decide) (by decide)]; exact h2.1, f5, by rw [f29 6 (by decide) (by decide) (by decide)]; exact h2.2.2⟩, ⟨by rw [f4 2 (by decide)]; exact h3.1, fun t' a b => by rw [o5 t' (by omega)]; exact h3.2 t' a b⟩, put, ⟨b1, by rw [g 30 (by decide), g 31 (by decide)]; exact b2, by rw [f29 11 (by decide) (by decide) (by decide)]; exact b3, p2, p1, by omega, p3⟩, oth.of o5 (fun j hj => ?_), Or.inr ⟨L, by omega, hL, l7⟩⟩, l7, by rw [NCU.at]; exact fun _ _ => rfl⟩
  have ne : j ≠ 24 * t + L := fun e => hj (by omega)
  obtain ⟨o7, o8, o11, _⟩ := o j ne
  exact ⟨o7, o8, (v9 j ne).2 fun z => hj ⟨z.1, z.2.1⟩, (v10 j ne).2 fun z => hj ⟨z.1, z.2.1⟩, o11, NCU.ne ne⟩
theorem p_X_emit24 {N : Nat} {ρ : zS} {k x : Int32} {t : Nat} (h8 : ρ 29 8 = Int32.ofNat t) (ht : t < 4) (h5 : ρ 5 t = Int32.ofNat 24) : zp (zf_Weaver_emit N ρ k x) (fun r => ∃ r2, CO1 t (Int32.ofNat 24) ρ r2 ∧ (∀ q, q ≠ 29 → r q = r2 q) ∧ r 29 7 = -1 ∧ r 29 9 = 0 ∧ (∀ i, i ≠ 7 → i ≠ 9 → r 29 i = r2 29 i)) := by
  unfold zf_Weaver_emit zb_Weaver_emit_59
  rw [h8]
  refine zp_bind (zp_mono (p_X_lengthOf ht) fun r1 e1 => ?_)
  rw [e1, h5]
  refine zp_bind (zp_mono (p_X_closeOpen1 h8 ht) fun r2 co => ?_)
  have e8 : r2 29 8 = Int32.ofNat t := by rw [co.1.2 8 (by decide) (by decide)]; exact h8
  have e5 : r2 5 t = Int32.ofNat 24 := by rw [co.1.1 5 (by decide) (by decide) (by decide)]; exact h5
  rw [e8]
  have ad : zp (zf_Program_addStep r2 (Int32.ofNat t) k x (r2 29 11) (r2 29 12)) (fun r3 => r3 = (-1, r2)) := by
    unfold zf_Program_addStep
    rw [zo_n (m := t) (by omega), e5]
    exact zp_ite (fun _ => zp_some rfl) fun _ => zp_ite (fun _ => zp_some rfl) fun _ => zp_chk fun _ => zp_ite (fun _ => zp_some rfl) fun _ => zp_chk fun _ => zp_ite (fun w => absurd w (by decide)) fun _ => zp_some rfl
  refine zp_bind (zp_mono ad fun r3 h3 => ?_)
  rw [h3]
  refine zp_ite (fun w => absurd rfl w) fun _ => zp_some ⟨r2, co, fun q hq => ?_, ?_, ?_, fun i a b => ?_⟩
  · rw [zu_other hq, zu_other hq]
  · rw [zx_up_same, zu_ne (by decide), zx_up_same, zu_eq]
  · rw [zx_up_same, zu_eq]
  · rw [zx_up_same, zu_ne b, zx_up_same, zu_ne a]
theorem NSP.put24 {t d : Nat} {ρ r r2 : zS} {nc nb : Nat → Nat → Nat} (h : NSP t 24 d ρ nc nb) (co : CO1 t (Int32.ofNat 24) ρ r2) (e : ∀ q, q ≠ 29 → r q = r2 q) (e7 : r 29 7 = -1) (e9 : r 29 9 = 0) (f : ∀ i, i ≠ 7 → i ≠ 9 → r 29 i = r2 29 i) (m : Nat → Nat) : NSQ t 24 d r nc nb m := by
  have s := h.shut co fun s' hs' w => by
    have := zo_inj (k := 24) (j := s') (by omega) (by omega) w
    omega
  have z9 : r2 29 9 = 0 := co.2.1
  have z10 : r2 29 10 = 0 := co.2.2.1
  obtain ⟨h1, h2, h3, h4, ⟨b1, b2, b3, b4, b5, b6, b7⟩, oth, lst⟩ := s
  have g := fun q (hq : q ≠ 29) => e q hq
  refine ⟨h1, ⟨by rw [f 8 (by decide) (by decide)]; exact h2.1, by rw [g 5 (by decide)]; exact h2.2.1, by rw [f 6 (by decide) (by decide)]; exact h2.2.2⟩, ⟨by rw [g 4 (by decide)]; exact h3.1, by rw [g 5 (by decide)]; exact h3.2⟩, h4.of fun s hs => ⟨by rw [g 7 (by decide)], by rw [g 8 (by decide)], by rw [g 9 (by decide)], by rw [g 10 (by decide)], by rw [g 11 (by decide)], rfl⟩, ⟨b1, by rw [g 30 (by decide), g 31 (by decide)]; exact b2, by rw [f 11 (by decide) (by decide)]; exact b3, ⟨fun s hs b => ?_, fun s hs b => ?_⟩, fun i hi => (b5 i hi).ext (Nat.le_refl _) (fun s hs => ⟨by rw [g 7 (by decide)], by rw [g 8 (by decide)], rfl⟩) ⟨by rw [g 30 (by decide)], by rw [g 31 (by decide)], by rw [g 32 (by decide)], by rw [g 33 (by decide)], by rw [g 34 (by decide)]⟩ fun _ _ => rfl, by decide, by rw [g 9 (by decide), g 10 (by decide)]; exact b7⟩, oth.of (fun j _ => by rw [g 5 (by decide)]) (fun j _ => ⟨by rw [g 7 (by decide)], by rw [g 8 (by decide)], by rw [g 9 (by decide)], by rw [g 10 (by decide)], by rw [g 11 (by decide)], rfl⟩), Or.inl e7⟩
  · rw [e9] at b
    exact absurd b (bit_zero hs)
  · rw [f 10 (by decide) (by decide), z10] at b
    exact absurd b (bit_zero hs)
theorem NSP.emit {N t L d : Nat} {k x : Int32} {ρ : zS} {nc nb : Nat → Nat → Nat} (h : NSP t L d ρ nc nb) (hk4 : k = 4 → ∀ l, l < 4 → x = Int32.ofNat l → 0 < nb d l) : zp (zf_Weaver_emit N ρ k x) (fun r => ∃ L' nc', NSQ t L' d r nc' nb (OUTN k x (nb d)) ∧ (r 29 7 = -1 ∨ ∃ s, s < L' ∧ s < 24 ∧ r 29 7 = Int32.ofNat s ∧ EQ4 (nc' (24 * t + s)) (nb d)) ∧ ∀ q, 30 ≤ q ∧ q ≤ 34 → r q = ρ q) := by
  have L24 := h.1.2.1
  by_cases c : L < 24
  · refine zp_mono (p_X_emit h.2.1.1 h.1.1 h.2.1.2.1 c) fun r em => ?_
    obtain ⟨q, l7, e⟩ := h.put hk4 c em
    exact ⟨L + 1, _, q, Or.inr ⟨L, by omega, c, l7, e⟩, fun q hq => em.1 q (by omega) (by omega) (by omega) (by omega) (by omega) (by omega) (by omega) (by omega) (by omega)⟩
  · have e : L = 24 := by omega
    subst e
    refine zp_mono (p_X_emit24 h.2.1.1 h.1.1 h.2.1.2.1) fun r ⟨r2, co, e, e7, e9, f⟩ => ?_
    exact ⟨24, nc, h.put24 co e e7 e9 f _, Or.inl e7, fun q hq => by rw [e q (by omega)]; exact co.1.1 q (by omega) (by omega) (by omega)⟩
