-- both answer alike
set_option maxRecDepth 2000
theorem VX.of {c len : Nat → Nat} {d : Nat} {ρ μ r ν : zS} (h : VX c len d ρ μ) (e : ∀ q, q = 8 ∨ q = 9 ∨ q = 10 ∨ q = 11 ∨ q = 12 ∨ q = 31 ∨ q = 32 ∨ q = 33 ∨ q = 34 → r q = ρ q) (e29 : ∀ i, i = 9 ∨ i = 10 ∨ i = 11 → r 29 i = ρ 29 i) (f : ∀ q, (92 ≤ q ∧ q ≤ 97) ∨ (102 ≤ q ∧ q ≤ 106) → ν q = μ q) (f82 : ν 82 37 = μ 82 37 ∧ ν 82 40 = μ 82 40) : VX c len d r ν := by
  refine ⟨h.1.of e e29 f f82, fun hd => ?_⟩
  obtain ⟨own, lo, lw, cw⟩ := h.2 hd
  exact ⟨own, lo, lw, cw.fr (Nat.le_refl _) ⟨f 102 (by decide), f82.1⟩ fun i _ => ⟨by rw [f 103 (by decide)], by rw [f 104 (by decide)], by rw [f 105 (by decide)]⟩⟩
theorem PKW.h40 {c len : Nat → Nat} {d : Nat} {x : Int32} {ρ μ : zS} (h : PKW c len d ρ μ) : PKW c len d ρ (zx_up μ 82 40 x) := by
  have u : ∀ q, q ≠ 82 → (zx_up μ 82 40 x) q = μ q := fun q hq => zu_other hq
  have v : ∀ i, i ≠ 40 → (zx_up μ 82 40 x) 82 i = μ 82 i := fun i hi => by rw [zx_up_same, zu_ne hi]
  unfold PKW at *
  rw [u 90 (by decide), u 92 (by decide), u 103 (by decide), v 25 (by decide), v 39 (by decide), v 41 (by decide), v 46 (by decide)]
  exact h
theorem LAT.h40 {c : Nat → Nat} {ws : Nat → Nat → Int64} {len : Nat → Nat} {x : Int32} {ρ μ : zS} {τ : zT} (h : LAT c ws len ρ τ μ) : LAT c ws len ρ τ (zx_up μ 82 40 x) := by
  have u : ∀ q, q ≠ 82 → (zx_up μ 82 40 x) q = μ q := fun q hq => zu_other hq
  exact h.of rfl rfl (by rw [zx_up_same, zu_ne (by decide)]) (u 87 (by decide)) (u 92 (by decide)) (u 93 (by decide)) (fun p _ => by rw [u 86 (by decide)]) (fun p _ => by rw [u 85 (by decide)])
theorem VX.brn {c len : Nat → Nat} {d t L : Nat} {k s : Int32} {ρ μ r ν r1 r2 ν2 : zS} (h : VX c len d ρ μ) (pk : PKW c len d ρ μ) (hd : 0 < d) (ht : t = c 2 - 1) (hL : L = len t) (hl : L < 24) (x : CEx t L k ρ r) (m : MEx t L k μ ν) (sb : SBJ k (r 8 (24 * t + L)) (ν 93 (24 * t + L))) (kz : k = 5 ∨ k = 6) (hs : s = 3 ∨ s = 5) (xa : XA0 r r1) (en : ENT s (Int32.ofNat L) d r1 r2) (o : OBM s (Int32.ofNat L) d ν ν2) : VX c (lUp len t (L + 1)) (d + 1) r2 ν2 := by
  obtain ⟨vx, own, lo, lw, cw, z⟩ := h.step pk hd ht hL hl x m sb
  obtain ⟨w1, w2⟩ := vx.1
  obtain ⟨wc, mk, wy, hh⟩ := w2 hd
  have mk0 := (h.1.2 hd).2.1
  have s4 : s ≠ 4 := by rcases hs with q | q <;> rw [q] <;> decide
  have s0 : s ≠ 0 := by rcases hs with q | q <;> rw [q] <;> decide
  have s1 : s ≠ 1 := by rcases hs with q | q <;> rw [q] <;> decide
  have s2 : s ≠ 2 := by rcases hs with q | q <;> rw [q] <;> decide
  have n103 : ν 103 = μ 103 := m.1.2
  have n104 : ν 104 = μ 104 := m.2.2.2.2.2.2.2.2.2.2.2.2 104 (by decide)
  refine ⟨WVX.opn w1 wc mk wy xa en o s4 ⟨⟨fun q => absurd q s0, fun q => by omega⟩, by rcases hs with q | q <;> rw [q] <;> decide⟩ (fun _ => ⟨L, by rw [← ht, lUp_at]; omega, rfl, rfl, by rw [← ht, m.2.2.2.2.1]; exact kz⟩) (fun q => absurd q s1) ?_, fun _ => ⟨own, lo, lw, ?_⟩⟩
  · rw [o.2.1 40 (by decide) (by decide) (by decide) (by decide) (by decide), ← hh]
    rcases en.2.2.2.2.2.2 with e | ⟨_, _, _, e | e⟩
    · exact absurd e.1 s2
    · exact absurd e.1 s1
    · rw [e.2, xa.1 29 (by decide)]
  · rw [← ht, lUp_at]
    refine cw.opn o s4 fun _ z' hz' e => ?_
    have ez := zo_inj (k := L) (j := z') (by omega) (by omega) e
    subst ez
    refine ⟨z, fun i hi h345 z2 hz2 e2 => ?_⟩
    rw [n103] at h345
    rw [n104] at e2
    obtain ⟨q, q1, _, q3, _⟩ := (mk0 i hi).2.1 h345
    rw [← ht] at q1
    have := zo_inj (k := z2) (j := q) (by omega) (by omega) (e2.symm.trans q3)
    omega
theorem VX.lck {c len : Nat → Nat} {d t L : Nat} {x y : Int32} {ρ μ r ν r1 r2 ν2 : zS} (h : VX c len d ρ μ) (pk : PKW c len d ρ μ) (hd : 0 < d) (ht : t = c 2 - 1) (hL : L = len t) (hl : L < 24) (cx : CEx t L 3 ρ r) (m : MEx t L 3 μ ν) (e8 : r 8 (24 * t + L) = x) (e93 : ν 93 (24 * t + L) = x) (hy : y = ν 82 40 ||| zJ_shl 1 x) (xa : XA0 r r1) (en : ENT 1 x d r1 r2) (o : OBM 1 (Int32.ofNat L) d (zx_up ν 82 40 y) ν2) : VX c (lUp len t (L + 1)) (d + 1) r2 ν2 := by
  obtain ⟨vx, own, lo, lw, cw, _⟩ := h.step pk hd ht hL hl cx m (SBJ.eq (by decide) (e8.trans e93.symm))
  obtain ⟨w1, w2⟩ := vx.1
  obtain ⟨wc, mk, wy, hh⟩ := w2 hd
  have h0 : ρ 29 11 = μ 82 40 := (h.1.2 hd).2.2.2
  have c11 : r 29 11 = ρ 29 11 := cx.2.2.2.2.2.2.2.2.2.2.2.2.1
  have m96 : ν 96 (24 * t + L) = μ 82 40 := m.2.2.2.2.2.2.2.2.1.1
  have n40 : ν 82 40 = μ 82 40 := m.2.2.2.2.2.2.2.2.2.2.2.1
  have u : ∀ q, q ≠ 82 → (zx_up ν 82 40 y) q = ν q := fun q hq => zu_other hq
  have v : ∀ i, i ≠ 40 → (zx_up ν 82 40 y) 82 i = ν 82 i := fun i hi => by rw [zx_up_same, zu_ne hi]
  have v40 : (zx_up ν 82 40 y) 82 40 = r 29 11 ||| zJ_shl 1 x := by rw [zx_up_same, zu_eq, hy, n40, c11, h0]
  refine ⟨WVX.opn (fun t' ht' => (w1 t' ht').of (fun _ _ => rfl) (fun q hq => u q (by omega))) (wc.of (fun _ _ => rfl) (fun q hq => u q (by omega))) (mk.of (Nat.le_refl _) (fun _ _ => ⟨rfl, rfl⟩) (fun i _ => ⟨by rw [u 103 (by decide)], by rw [u 104 (by decide)], by rw [u 106 (by decide)]⟩) (fun q hq => u q (by omega))) (wy.of (Nat.le_refl _) ⟨rfl, rfl⟩ (fun _ _ => ⟨rfl, rfl⟩) (fun i _ => ⟨by rw [u 103 (by decide)], by rw [u 105 (by decide)]⟩) ⟨u 92 (by decide), u 102 (by decide), v 37 (by decide)⟩) xa en o (by decide) ⟨⟨fun q => absurd q (by decide), fun q => by omega⟩, by decide⟩ (fun q => absurd q (by decide)) (fun _ => ⟨L, by rw [← ht, lUp_at]; omega, rfl, by rw [← ht, u 93 (by decide)]; exact e93.symm, by rw [← ht, u 96 (by decide), m96, c11, h0], v40⟩) ?_, fun _ => ⟨own, lo, lw, ?_⟩⟩
  · rw [o.2.1 40 (by decide) (by decide) (by decide) (by decide) (by decide), v40]
    rcases en.2.2.2.2.2.2 with e | ⟨_, _, _, e | e⟩
    · exact absurd e.1 (by decide)
    · rw [e.2, xa.1 29 (by decide)]
    · exact absurd rfl e.1
  · rw [← ht, lUp_at]
    exact (cw.fr (Nat.le_refl _) ⟨u 102 (by decide), v 37 (by decide)⟩ (fun i _ => ⟨by rw [u 103 (by decide)], by rw [u 104 (by decide)], by rw [u 105 (by decide)]⟩)).opn o (by decide) (fun q => absurd q (by decide))
theorem VX.spn {c len : Nat → Nat} {d : Nat} {m st : Int32} {ρ μ r ν r1 : zS} (h : VX c len d ρ μ) (hd : 0 < d) (xa : XA0 ρ r1) (en : ENT 2 m d r1 r) (o : OBM 2 st d μ ν) : VX c len (d + 1) r ν := by
  obtain ⟨own, lo, lw, cw⟩ := h.2 hd
  obtain ⟨w1, w2⟩ := h.1
  obtain ⟨wc, mk, wy, hh⟩ := w2 hd
  refine ⟨WVX.opn w1 wc mk wy xa en o (by decide) ⟨⟨fun q => absurd q (by decide), fun q => by omega⟩, by decide⟩ (fun q => absurd q (by decide)) (fun q => absurd q (by decide)) ?_, fun _ => ⟨own, lo, lw, cw.opn o (by decide) (fun q => absurd q (by decide))⟩⟩
  rw [o.2.1 40 (by decide) (by decide) (by decide) (by decide) (by decide), ← hh]
  rcases en.2.2.2.2.2.2 with e | e
  · rw [e.2.2.2, xa.1 29 (by decide)]
  · exact absurd rfl e.1
