-- both answer alike
set_option maxRecDepth 2000
def NML (σ : zS) : Prop := 0 ≤ σ 18 3 ∧ ∀ i : Nat, i < 14 → Int32.ofNat i < σ 18 3 → σ 20 i = 1 → 0 ≤ σ 21 i ∧ σ 21 i < 4
def OTN (t : Nat) (ρ : zS) (nc : Nat → Nat → Nat) : Prop := ∀ t', t' < 4 → t' ≠ t → ∃ n, n ≤ 24 ∧ ρ 5 t' = Int32.ofNat n ∧ NSR t' n ρ nc
def LST (t n : Nat) (ρ : zS) : Prop := ρ 29 7 = -1 ∨ ∃ s, s < n ∧ s < 24 ∧ ρ 29 7 = Int32.ofNat s
def NSP (t L d : Nat) (ρ : zS) (nc nb : Nat → Nat → Nat) : Prop := (t < 4 ∧ L ≤ 24 ∧ d ≤ 8) ∧ (ρ 29 8 = Int32.ofNat t ∧ ρ 5 t = Int32.ofNat L ∧ ρ 29 6 = Int32.ofNat d) ∧ (ρ 4 2 = Int32.ofNat (t + 1) ∧ ∀ t', t < t' → t' < 4 → ρ 5 t' = 0) ∧ NSR t L ρ nc ∧ NSB t L d ρ nc nb ∧ OTN t ρ nc ∧ LST t L ρ
def NSA (_σ0 σ : zS) : Prop := σ 17 6 = 0 → NML σ ∧ ∃ t L d nc nb, 0 < d ∧ NSP t L d σ nc nb
theorem NSP.of {t L d : Nat} {ρ r : zS} {nc nb : Nat → Nat → Nat} (h : NSP t L d ρ nc nb) (e : ∀ q, q = 5 ∨ q = 7 ∨ q = 8 ∨ q = 9 ∨ q = 10 ∨ q = 11 ∨ q = 30 ∨ q = 31 ∨ q = 32 ∨ q = 33 ∨ q = 34 → r q = ρ q) (e4 : r 4 2 = ρ 4 2) (f : ∀ i, i ≠ 12 → r 29 i = ρ 29 i) : NSP t L d r nc nb := by
  unfold NSP NSR NSB WYS BLK OTN NSR LST at *
  unfold WYS at *
  rw [e 5 (by decide), e 7 (by decide), e 8 (by decide), e 9 (by decide), e 10 (by decide), e 11 (by decide), e 30 (by decide), e 31 (by decide), e 32 (by decide), e 33 (by decide), e 34 (by decide), e4, f 6 (by decide), f 7 (by decide), f 8 (by decide), f 9 (by decide), f 10 (by decide), f 11 (by decide)]
  exact h
theorem NML.of {σ r : zS} (h : NML σ) (e18 : r 18 3 = σ 18 3) (e20 : r 20 = σ 20) (e21 : r 21 = σ 21) : NML r := by
  unfold NML at *
  rw [e18, e20, e21]
  exact h
theorem NSA.of {σ0 σ r : zS} (h : NSA σ0 σ) (e : ∀ q, q = 5 ∨ q = 7 ∨ q = 8 ∨ q = 9 ∨ q = 10 ∨ q = 11 ∨ q = 20 ∨ q = 21 ∨ q = 30 ∨ q = 31 ∨ q = 32 ∨ q = 33 ∨ q = 34 → r q = σ q) (e4 : r 4 2 = σ 4 2) (e17 : r 17 6 = σ 17 6) (e18 : r 18 3 = σ 18 3) (f : ∀ i, i ≠ 12 → r 29 i = σ 29 i) : NSA σ0 r := fun w => by
  obtain ⟨n, t, L, d, nc, nb, hd, p⟩ := h (e17.symm.trans w)
  exact ⟨n.of e18 (e 20 (by decide)) (e 21 (by decide)), t, L, d, nc, nb, hd, p.of (fun q hq => e q (by omega)) e4 f⟩
theorem NSA.up {σ0 σ : zS} {p i : Nat} {x : Int32} (hp : (4 ≠ p ∧ 5 ≠ p ∧ 7 ≠ p ∧ 8 ≠ p) ∧ (9 ≠ p ∧ 10 ≠ p ∧ 11 ≠ p ∧ 17 ≠ p) ∧ (18 ≠ p ∧ 20 ≠ p ∧ 21 ≠ p ∧ 29 ≠ p) ∧ (30 ≠ p ∧ 31 ≠ p ∧ 32 ≠ p ∧ 33 ≠ p ∧ 34 ≠ p)) (h : NSA σ0 σ) : NSA σ0 (zx_up σ p i x) := h.of (fun q hq => zu_other (by omega)) (by rw [zu_other hp.1.1]) (by rw [zu_other hp.2.1.2.2.2]) (by rw [zu_other hp.2.2.1.1]) fun i _ => by rw [zu_other hp.2.2.1.2.2.2]
theorem NSA.u4 {σ0 σ : zS} {i : Nat} {x : Int32} (hi : 2 ≠ i) (h : NSA σ0 σ) : NSA σ0 (zx_up σ 4 i x) := h.of (fun q hq => zu_other (by omega)) (by rw [zx_up_same, zu_ne hi]) (by rw [zu_other (by decide)]) (by rw [zu_other (by decide)]) fun i _ => by rw [zu_other (by decide)]
theorem NSA.u17 {σ0 σ : zS} {i : Nat} {x : Int32} (hi : 6 ≠ i) (h : NSA σ0 σ) : NSA σ0 (zx_up σ 17 i x) := h.of (fun q hq => zu_other (by omega)) (by rw [zu_other (by decide)]) (by rw [zx_up_same, zu_ne hi]) (by rw [zu_other (by decide)]) fun i _ => by rw [zu_other (by decide)]
theorem NSA.u18 {σ0 σ : zS} {i : Nat} {x : Int32} (hi : 3 ≠ i) (h : NSA σ0 σ) : NSA σ0 (zx_up σ 18 i x) := h.of (fun q hq => zu_other (by omega)) (by rw [zu_other (by decide)]) (by rw [zu_other (by decide)]) (by rw [zx_up_same, zu_ne hi]) fun i _ => by rw [zu_other (by decide)]
theorem NSA.bad {σ0 σ : zS} (h : ¬ σ 17 6 = 0) : NSA σ0 σ := fun w => absurd w h
theorem wq_f_Reader_failHere {σ0 σ : zS} {x1 : Int32} (hs : NSA σ0 σ) (hk : ¬ x1 = 0 := by first | assumption | decide) : zp (zf_Reader_failHere σ x1) (fun r => NSA σ0 r.2) := zp_mono (c_fail hk) fun r h => NSA.bad h.2.1
theorem OTN.of {t : Nat} {ρ r : zS} {nc nc' : Nat → Nat → Nat} (h : OTN t ρ nc) (e5 : ∀ j, j ≠ t → r 5 j = ρ 5 j) (e : ∀ j, ¬ (24 * t ≤ j ∧ j < 24 * t + 24) → r 7 j = ρ 7 j ∧ r 8 j = ρ 8 j ∧ r 9 j = ρ 9 j ∧ r 10 j = ρ 10 j ∧ r 11 j = ρ 11 j ∧ nc' j = nc j) : OTN t r nc' := fun t' ht' ne => by
  obtain ⟨n, n24, e', h'⟩ := h t' ht' ne
  exact ⟨n, n24, by rw [e5 t' ne]; exact e', h'.of fun s hs => e _ (by omega)⟩
theorem NSP.shut {t L d : Nat} {x : Int32} {ρ r : zS} {nc nb : Nat → Nat → Nat} (h : NSP t L d ρ nc nb) (co : CO1 t x ρ r) (hx : (∀ s', s' < 24 → x = Int32.ofNat s' → s' < L ∧ EQ4 (nc (24 * t + s')) (nb d))) : NSP t L d r nc nb := by
  obtain ⟨h1, h2, h3, ⟨r1, r2, r3, r4⟩, ⟨b1, b2, b3, b4, b5, b6, b7⟩, oth, lst⟩ := h
  obtain ⟨⟨c1, c2⟩, c9, c10, w9, w10⟩ := co
  have q : ∀ q, q ≠ 9 → q ≠ 10 → q ≠ 29 → r q = ρ q := c1
  have g : ∀ i, i ≠ 9 → i ≠ 10 → r 29 i = ρ 29 i := c2
  have sub : ∀ s, 24 * t + s - 24 * t = s := fun s => by omega
  have v9 : ∀ s, s < L → (bit (ρ 29 9) s → r 9 (24 * t + s) = x) ∧ (¬ bit (ρ 29 9) s → r 9 (24 * t + s) = ρ 9 (24 * t + s)) := fun s hs => ⟨fun b => (w9 _).1 ⟨by omega, by omega, by rw [sub]; exact b⟩, fun b => (w9 _).2 fun z => b (by rw [sub] at z; exact z.2.2)⟩
  have v10 : ∀ s, s < L → (bit (ρ 29 10) s → r 10 (24 * t + s) = x) ∧ (¬ bit (ρ 29 10) s → r 10 (24 * t + s) = ρ 10 (24 * t + s)) := fun s hs => ⟨fun b => (w10 _).1 ⟨by omega, by omega, by rw [sub]; exact b⟩, fun b => (w10 _).2 fun z => b (by rw [sub] at z; exact z.2.2)⟩
  refine ⟨h1, ⟨by rw [g 8 (by decide) (by decide)]; exact h2.1, by rw [q 5 (by decide) (by decide) (by decide)]; exact h2.2.1, by rw [g 6 (by decide) (by decide)]; exact h2.2.2⟩, ⟨by rw [q 4 (by decide) (by decide) (by decide)]; exact h3.1, by rw [q 5 (by decide) (by decide) (by decide)]; exact h3.2⟩, ⟨by rw [q 7 (by decide) (by decide) (by decide), q 8 (by decide) (by decide) (by decide), q 11 (by decide) (by decide) (by decide)]; exact r1, r2, fun s s' hs hs' k w => ?_, fun s s' hs hs' w => ?_⟩, ⟨b1, by rw [q 30 (by decide) (by decide) (by decide), q 31 (by decide) (by decide) (by decide)]; exact b2, by rw [g 11 (by decide) (by decide)]; exact b3, ⟨fun s hs b => ?_, fun s hs b => ?_⟩, fun i hi => (b5 i hi).ext (Nat.le_refl _) (fun s hs => ⟨by rw [q 7 (by decide) (by decide) (by decide)], by rw [q 8 (by decide) (by decide) (by decide)], rfl⟩) ⟨by rw [q 30 (by decide) (by decide) (by decide)], by rw [q 31 (by decide) (by decide) (by decide)], by rw [q 32 (by decide) (by decide) (by decide)], by rw [q 33 (by decide) (by decide) (by decide)], by rw [q 34 (by decide) (by decide) (by decide)]⟩ fun _ _ => rfl, b6, fun s s' hs hs' w => ?_⟩, oth.of (fun j _ => by rw [q 5 (by decide) (by decide) (by decide)]) (fun j hj => ⟨by rw [q 7 (by decide) (by decide) (by decide)], by rw [q 8 (by decide) (by decide) (by decide)], (w9 j).2 fun z => hj ⟨z.1, z.2.1⟩, (w10 j).2 fun z => hj ⟨z.1, z.2.1⟩, by rw [q 11 (by decide) (by decide) (by decide)], rfl⟩), by unfold LST; rw [g 7 (by decide) (by decide)]; exact lst⟩
  · rw [q 7 (by decide) (by decide) (by decide)] at k ⊢
    rw [q 8 (by decide) (by decide) (by decide)]
    by_cases b : bit (ρ 29 9) s
    · rw [(v9 s hs).1 b] at w
      exact (hx s' (by omega) w).2.tr ((b4.1 s (by omega) b).2 k).sy
    · rw [(v9 s hs).2 b] at w
      exact r3 s s' hs hs' k w
  · by_cases b : bit (ρ 29 10) s
    · rw [(v10 s hs).1 b] at w
      exact (hx s' (by omega) w).2.tr (b4.2 s (by omega) b).2.sy
    · rw [(v10 s hs).2 b] at w
      exact r4 s s' hs hs' w
  · rw [c9] at b
    exact absurd b (bit_zero hs)
  · rw [c10] at b
    exact absurd b (bit_zero hs)
  · rcases w with w | w
    · by_cases b : bit (ρ 29 9) s
      · rw [(v9 s hs).1 b] at w
        exact (hx s' hs' w).1
      · rw [(v9 s hs).2 b] at w
        exact b7 s s' hs hs' (Or.inl w)
    · by_cases b : bit (ρ 29 10) s
      · rw [(v10 s hs).1 b] at w
        exact (hx s' hs' w).1
      · rw [(v10 s hs).2 b] at w
        exact b7 s s' hs hs' (Or.inr w)
