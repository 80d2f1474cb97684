-- both answer alike
set_option maxRecDepth 2000
def sumL (len : Nat → Nat) : Nat → Nat
  | 0 => 0
  | n + 1 => sumL len n + len n
def lUp (len : Nat → Nat) (t L : Nat) : Nat → Nat := fun j => if j = t then L else len j
theorem lUp_at {len : Nat → Nat} {t L : Nat} : lUp len t L t = L := if_pos rfl
theorem lUp_ne {len : Nat → Nat} {t L j : Nat} (h : j ≠ t) : lUp len t L j = len j := if_neg h
theorem sumL_congr {len len' : Nat → Nat} : ∀ n, (∀ j, j < n → len' j = len j) → sumL len' n = sumL len n := by
  intro n
  induction n with
  | zero => intro _; rfl
  | succ n ih => intro h; rw [sumL, sumL, ih (fun j hj => h j (by omega)), h n (by omega)]
theorem sumL_up {len : Nat → Nat} {n : Nat} (hn : 0 < n) : sumL (lUp len (n - 1) (len (n - 1) + 1)) n = sumL len n + 1 := by
  obtain ⟨m, rfl⟩ : ∃ m, n = m + 1 := ⟨n - 1, by omega⟩
  rw [sumL, sumL, sumL_congr (len := len) m (fun j hj => lUp_ne (by omega)), show m + 1 - 1 = m from rfl, lUp_at]
  omega
theorem sumL_le {len : Nat → Nat} : ∀ n, (∀ j, j < n → len j ≤ 24) → sumL len n ≤ 24 * n := by
  intro n
  induction n with
  | zero => intro _; exact Nat.le_refl _
  | succ n ih => intro h; rw [sumL]; have := ih (fun j hj => h j (by omega)); have := h n (by omega); omega
def PKW (c : Nat → Nat) (len : Nat → Nat) (d : Nat) (ρ μ : zS) : Prop :=
  (∀ t, t < c 2 → len t ≤ 24 ∧ ρ 5 t = Int32.ofNat (len t) ∧ μ 90 t = Int32.ofNat (len t)) ∧ (∀ t, c 2 ≤ t → t < 4 → ρ 5 t = 0) ∧ ρ 4 4 = Int32.ofNat (sumL len (c 2)) ∧ (ρ 4 3 = μ 82 25 ∧ ρ 4 3 ≤ 6) ∧ (d ≤ 8 ∧ ρ 29 6 = Int32.ofNat d) ∧
  (0 < d → 0 < c 2 ∧ ρ 29 8 = Int32.ofNat (c 2 - 1) ∧ μ 82 39 = Int32.ofNat (c 2 - 1) ∧ ρ 29 12 = μ 82 41 ∧ μ 82 46 = Int32.ofNat d ∧ ∀ i, i < d → ρ 30 i = μ 103 i) ∧
  (∀ t s, t < c 2 → s < len t → ρ 7 (24 * t + s) = μ 92 (24 * t + s))
def SJ (c : Nat → Nat) (len : Nat → Nat) (μ : zS) (q : Nat) : Prop := (∃ t s, t < c 2 ∧ s < len t ∧ q = 24 * t + s) ∧ (μ 92 q = 10 ∨ μ 92 q = 11)
def LAT (c : Nat → Nat) (ws : Nat → Nat → Int64) (len : Nat → Nat) (ρ : zS) (τ : zT) (μ : zS) : Prop :=
  ∃ (nz : Nat) (wz : Nat → Int64) (SL : Nat → Nat), nz ≤ 128 ∧ μ 82 19 = Int32.ofNat nz ∧ (∀ l, l < nz → Nm μ (17 + l) (wz l) ∧ SJ c len μ (SL l) ∧ τ 23 (SL l) = wz l ∧ ρ 24 (SL l) = μ 87 l) ∧ (∀ l l', l < l' → l' < nz → SL l < SL l') ∧
  (∀ q, SJ c len μ q → (∃ k, k < c 2 ∧ μ 93 q = Int32.ofNat k ∧ ws 2 k = τ 23 q) ∨ (∃ l, l < nz ∧ μ 93 q = Int32.ofNat (4 + l) ∧ wz l = τ 23 q ∧ SL l ≤ q))
def CEx (t L : Nat) (k : Int32) (ρ r : zS) : Prop :=
  r 30 = ρ 30 ∧ (∀ i, i ≠ 4 → r 4 i = ρ 4 i) ∧ r 4 4 = ρ 4 4 + 1 ∧ r 5 t = Int32.ofNat (L + 1) ∧ (∀ j, j ≠ t → r 5 j = ρ 5 j) ∧ r 7 (24 * t + L) = k ∧ (∀ j, j ≠ 24 * t + L → r 7 j = ρ 7 j) ∧ (∀ i, i = 6 ∨ i = 8 ∨ i = 12 → r 29 i = ρ 29 i) ∧ (∀ j, j ≠ 24 * t + L → r 24 j = ρ 24 j) ∧ CE2 t L ρ r
def MEx (t L : Nat) (k : Int32) (μ ν : zS) : Prop :=
  (ν 87 = μ 87 ∧ ν 103 = μ 103) ∧ (∀ i, i = 17 ∨ i = 19 ∨ i = 25 ∨ i = 39 ∨ i = 41 ∨ i = 46 → ν 82 i = μ 82 i) ∧ ν 90 t = Int32.ofNat (L + 1) ∧ (∀ j, j ≠ t → ν 90 j = μ 90 j) ∧ ν 92 (24 * t + L) = k ∧ (∀ j, j ≠ 24 * t + L → ν 92 j = μ 92 j ∧ ν 93 j = μ 93 j) ∧ (∀ p, 17 ≤ p → ν 86 p = μ 86 p) ∧ (∀ j, 102 ≤ j → ν 85 j = μ 85 j) ∧ ME2 t L k μ ν
theorem CEx.of {t L : Nat} {k x : Int32} {ρ ρ1 r : zS} (f : RXF ρ ρ1) (e : EM t L k x ρ1 r) : CEx t L k ρ r := by
  obtain ⟨e1, e2, e3, e4, e5, e6, e7, e8, e9, ew⟩ := e
  have g : ∀ q, q ≠ 17 → q ≠ 18 → q ≠ 25 → ρ1 q = ρ q := f.1
  refine ⟨?_, fun i hi => ?_, ?_, e4, fun j hj => ?_, e6.1, fun j hj => ?_, fun i hi => ?_, fun j hj => ?_, ⟨by rw [e6.2.2.1, g 29 (by decide) (by decide) (by decide)], by rw [e6.2.2.2, g 29 (by decide) (by decide) (by decide)]⟩, fun j hj => ⟨by rw [(e7 j hj).2.1, g 8 (by decide) (by decide) (by decide)], by rw [(e7 j hj).2.2.1, g 11 (by decide) (by decide) (by decide)], by rw [(e7 j hj).2.2.2, g 12 (by decide) (by decide) (by decide)]⟩, ?_, by rw [e9 11 (by decide) (by decide) (by decide), g 29 (by decide) (by decide) (by decide)], fun q hq => by rw [e1 q (by omega) (by omega) (by omega) (by omega) (by omega) (by omega) (by omega) (by omega) (by omega), g q (by omega) (by omega) (by omega)]⟩
  · rw [e1 30 (by decide) (by decide) (by decide) (by decide) (by decide) (by decide) (by decide) (by decide) (by decide), g 30 (by decide) (by decide) (by decide)]
  · rw [e2 i hi, g 4 (by decide) (by decide) (by decide)]
  · rw [e3, g 4 (by decide) (by decide) (by decide)]
  · rw [e5 j hj, g 5 (by decide) (by decide) (by decide)]
  · rw [(e7 j hj).1, g 7 (by decide) (by decide) (by decide)]
  · rw [e9 i (by omega) (by omega) (by omega), g 29 (by decide) (by decide) (by decide)]
  · rw [e1 24 (by decide) (by decide) (by decide) (by decide) (by decide) (by decide) (by decide) (by decide) (by decide), g 24 (by decide) (by decide) (by decide)]
  · unfold EW at ew ⊢
    rw [g 9 (by decide) (by decide) (by decide), g 10 (by decide) (by decide) (by decide), g 29 (by decide) (by decide) (by decide)] at ew
    exact ew
theorem CEx.post {t L : Nat} {k : Int32} {ρ r r' : zS} (h : CEx t L k ρ r) (f : ∀ q, q = 4 ∨ q = 5 ∨ (7 ≤ q ∧ q ≤ 12) ∨ q = 24 ∨ (29 ≤ q ∧ q ≤ 34) → r' q = r q) : CEx t L k ρ r' := by
  obtain ⟨h1, h2, h3, h4, h5, h6, h7, h8, h9, k1, k2, k3, k4, k5⟩ := h
  refine ⟨by rw [f 30 (by decide)]; exact h1, by rw [f 4 (by decide)]; exact h2, by rw [f 4 (by decide)]; exact h3, by rw [f 5 (by decide)]; exact h4, by rw [f 5 (by decide)]; exact h5, by rw [f 7 (by decide)]; exact h6, by rw [f 7 (by decide)]; exact h7, by rw [f 29 (by decide)]; exact h8, by rw [f 24 (by decide)]; exact h9, by rw [f 11 (by decide), f 12 (by decide)]; exact k1, by rw [f 8 (by decide), f 11 (by decide), f 12 (by decide)]; exact k2, ?_, by rw [f 29 (by decide)]; exact k4, fun q hq => by rw [f q (by omega)]; exact k5 q hq⟩
  unfold EW at k3 ⊢
  rw [f 9 (by decide), f 10 (by decide), f 29 (by decide)]
  exact k3
theorem MEx.of {t L : Nat} {k x : Int32} {μ ν : zS} (e : ADS t L k x μ ν) : MEx t L k μ ν := by
  obtain ⟨e1, e2, e3, e4, e5, e6, ew⟩ := e
  have g : ∀ q, q = 87 ∨ q = 103 ∨ q = 86 ∨ q = 85 ∨ q = 104 ∨ q = 105 ∨ q = 106 → ν q = μ q := fun q hq => e1 q (by omega) (by omega) (by omega) (by omega) (by omega) (by omega) (by omega) (by omega) (by omega)
  exact ⟨⟨g 87 (by decide), g 103 (by decide)⟩, fun i hi => e2 i (by omega), e3, e4, e5.1, fun j hj => ⟨(e6 j hj).1, (e6 j hj).2.1⟩, fun p _ => by rw [g 86 (by decide)], fun p _ => by rw [g 85 (by decide)], ⟨e5.2.2.1, e5.2.2.2⟩, fun j hj => ⟨(e6 j hj).2.2.1, (e6 j hj).2.2.2⟩, ew, e2 40 (by decide), fun q hq => g q (by omega)⟩
theorem AW.of {t L : Nat} {lo : List Nat} {k : Int32} {μ ν ν' : zS} (h : AW t L lo k μ ν) (f : ν' 94 = ν 94 ∧ ν' 95 = ν 95 ∧ ν' 102 = ν 102 ∧ ν' 82 37 = ν 82 37) : AW t L lo k μ ν' := by
  unfold AW at *
  rw [f.1, f.2.1, f.2.2.1, f.2.2.2]
  exact h
theorem MEx.to {t L : Nat} {k : Int32} {μ ν ν' : zS} (h : MEx t L k μ ν) (g : ∀ q, q = 87 ∨ q = 90 ∨ (92 ≤ q ∧ q ≤ 97) ∨ (102 ≤ q ∧ q ≤ 106) → ν' q = ν q) (g2 : ∀ i, i = 17 ∨ i = 19 ∨ i = 25 ∨ i = 37 ∨ i = 39 ∨ i = 40 ∨ i = 41 ∨ i = 46 → ν' 82 i = ν 82 i) (g86 : ∀ p, 17 ≤ p → ν' 86 p = ν 86 p) (g85 : ∀ j, 102 ≤ j → ν' 85 j = ν 85 j) : MEx t L k μ ν' := by
  obtain ⟨h1, h2, h3, h4, h5, h6, h7, h8, k1, k2, k3, k4, k5⟩ := h
  exact ⟨⟨(g 87 (by decide)).trans h1.1, (g 103 (by decide)).trans h1.2⟩, fun i hi => (g2 i (by omega)).trans (h2 i hi), by rw [g 90 (by decide)]; exact h3, by rw [g 90 (by decide)]; exact h4, by rw [g 92 (by decide)]; exact h5, by rw [g 92 (by decide), g 93 (by decide)]; exact h6, fun p hp => (g86 p hp).trans (h7 p hp), fun j hj => (g85 j hj).trans (h8 j hj), by rw [g 96 (by decide), g 97 (by decide)]; exact k1, by rw [g 96 (by decide), g 97 (by decide)]; exact k2, fun lo a b => (k3 lo a b).of ⟨g 94 (by decide), g 95 (by decide), g 102 (by decide), g2 37 (by decide)⟩, (g2 40 (by decide)).trans k4, fun q hq => (g q (by omega)).trans (k5 q hq)⟩
theorem MEx.rd {t L : Nat} {k : Int32} {μ ν ν' : zS} (h : MEx t L k μ ν) (f : RMF ν ν') : MEx t L k μ ν' :=
  h.to (fun q hq => f.1 q (by omega) (by omega) (by omega)) (fun i hi => f.2.1 i (by omega) (by omega) (by omega) (by omega) (by omega) (by omega) (by omega) (by omega)) (fun p hp => f.2.2.1 p (by omega)) (fun j hj => f.2.2.2 j (by omega))
theorem MEx.up {t L i : Nat} {k x : Int32} {μ ν : zS} {q : Nat} (h : MEx t L k μ ν) (hq : 98 ≤ q ∧ q ≤ 101) : MEx t L k μ (zx_up ν q i x) :=
  h.to (fun p hp => zu_other (by omega)) (fun j _ => by rw [zu_other (by omega)]) (fun p _ => by rw [zu_other (by omega)]) (fun j _ => by rw [zu_other (by omega)])
theorem MEx.up93 {t L : Nat} {k x : Int32} {μ ν : zS} (h : MEx t L k μ ν) : MEx t L k μ (zx_up ν 93 (24 * t + L) x) := by
  obtain ⟨h1, h2, h3, h4, h5, h6, h7, h8, k1, k2, k3, k4, k5⟩ := h
  have u : ∀ q, q ≠ 93 → (zx_up ν 93 (24 * t + L) x) q = ν q := fun q hq => zu_other hq
  exact ⟨⟨(u 87 (by decide)).trans h1.1, (u 103 (by decide)).trans h1.2⟩, fun i hi => by rw [u 82 (by decide)]; exact h2 i hi, by rw [u 90 (by decide)]; exact h3, by rw [u 90 (by decide)]; exact h4, by rw [u 92 (by decide)]; exact h5, fun j hj => ⟨by rw [u 92 (by decide)]; exact (h6 j hj).1, by rw [zx_up_same, zu_ne hj]; exact (h6 j hj).2⟩, by rw [u 86 (by decide)]; exact h7, by rw [u 85 (by decide)]; exact h8, by rw [u 96 (by decide), u 97 (by decide)]; exact k1, by rw [u 96 (by decide), u 97 (by decide)]; exact k2, fun lo a b => (k3 lo a b).of ⟨u 94 (by decide), u 95 (by decide), u 102 (by decide), by rw [u 82 (by decide)]⟩, by rw [u 82 (by decide)]; exact k4, fun q hq => (u q (by omega)).trans (k5 q hq)⟩
theorem MEx.up92 {t L : Nat} {k x : Int32} {μ ν : zS} (h : MEx t L k μ ν) (n1 : k ≠ 13) (n2 : x ≠ 13) : MEx t L x μ (zx_up ν 92 (24 * t + L) x) := by
  obtain ⟨h1, h2, h3, h4, h5, h6, h7, h8, k1, k2, k3, k4, k5⟩ := h
  have u : ∀ q, q ≠ 92 → (zx_up ν 92 (24 * t + L) x) q = ν q := fun q hq => zu_other hq
  refine ⟨⟨(u 87 (by decide)).trans h1.1, (u 103 (by decide)).trans h1.2⟩, fun i hi => by rw [u 82 (by decide)]; exact h2 i hi, by rw [u 90 (by decide)]; exact h3, by rw [u 90 (by decide)]; exact h4, by rw [zx_up_same, zu_eq], fun j hj => ⟨by rw [zx_up_same, zu_ne hj]; exact (h6 j hj).1, by rw [u 93 (by decide)]; exact (h6 j hj).2⟩, by rw [u 86 (by decide)]; exact h7, by rw [u 85 (by decide)]; exact h8, by rw [u 96 (by decide), u 97 (by decide)]; exact k1, by rw [u 96 (by decide), u 97 (by decide)]; exact k2, fun lo a b => ?_, by rw [u 82 (by decide)]; exact k4, fun q hq => (u q (by omega)).trans (k5 q hq)⟩
  have w := (k3 lo a b).of (ν' := zx_up ν 92 (24 * t + L) x) ⟨u 94 (by decide), u 95 (by decide), u 102 (by decide), by rw [u 82 (by decide)]⟩
  obtain ⟨w1, w2, w3⟩ := w
  refine ⟨w1, w2, ?_⟩
  rcases w3 with w3 | w3
  · exact absurd w3.1 n1
  · exact Or.inr ⟨n2, w3.2⟩
theorem PKW.step {c len : Nat → Nat} {d t L : Nat} {k : Int32} {ρ μ r ν : zS} (h : PKW c len d ρ μ) (hd : 0 < d) (ht : t = c 2 - 1) (hL : L = len t) (hl : L < 24) (h4 : c 2 ≤ 4) (x : CEx t L k ρ r) (m : MEx t L k μ ν) : PKW c (lUp len t (L + 1)) d r ν := by
  obtain ⟨p1, p2, p3, p4, p5, p6, p7⟩ := h
  obtain ⟨x1, x2, x3, x4, x5, x6, x7, x8, x9⟩ := x
  obtain ⟨m1, m2, m3, m4, m5, m6, m7, m8⟩ := m
  obtain ⟨q1, q2, q3, q4, q5, q6⟩ := p6 hd
  subst ht hL
  have sl := sumL_le (len := len) (c 2) (fun j hj => (p1 j hj).1)
  refine ⟨fun t ht => ?_, fun t a b => ?_, ?_, ?_, ⟨p5.1, by rw [x8 6 (by decide)]; exact p5.2⟩, fun _ => ⟨q1, by rw [x8 8 (by decide)]; exact q2, by rw [m2 39 (by decide)]; exact q3, by rw [x8 12 (by decide), m2 41 (by decide)]; exact q4, by rw [m2 46 (by decide)]; exact q5, fun i hi => by rw [x1, m1.2]; exact q6 i hi⟩, fun t s ht hs => ?_⟩
  · by_cases e : t = c 2 - 1
    · rw [e, lUp_at]; exact ⟨by omega, x4, m3⟩
    · rw [lUp_ne e, x5 t e, m4 t e]; exact p1 t ht
  · rw [x5 t (by omega)]; exact p2 t a b
  · rw [x3, p3, sumL_up q1, zo_1 (by omega)]
  · rw [x2 3 (by decide), m2 25 (by decide)]; exact p4
  · by_cases e : t = c 2 - 1
    · rw [e] at hs ⊢
      rw [lUp_at] at hs
      by_cases e2 : s = len (c 2 - 1)
      · rw [e2, x6, m5]
      · rw [x7 _ (by omega), (m6 _ (by omega)).1]; exact p7 _ _ (by omega) (by omega)
    · rw [lUp_ne e] at hs
      have := (p1 t ht).1
      rw [x7 _ (by omega), (m6 _ (by omega)).1]; exact p7 _ _ ht hs
theorem PKW.rd {c len : Nat → Nat} {d : Nat} {ρ μ r ν : zS} (h : PKW c len d ρ μ) (x : RXF ρ r) (m : RMF μ ν) : PKW c len d r ν := by
  have g : ∀ q, q = 4 ∨ q = 5 ∨ q = 7 ∨ q = 29 ∨ q = 30 → r q = ρ q := fun q hq => x.1 q (by omega) (by omega) (by omega)
  have gm : ∀ q, q = 90 ∨ q = 92 ∨ q = 103 → ν q = μ q := fun q hq => m.1 q (by omega) (by omega) (by omega)
  have g2 : ∀ i, i = 25 ∨ i = 39 ∨ i = 41 ∨ i = 46 → ν 82 i = μ 82 i := fun i hi => m.2.1 i (by omega) (by omega) (by omega) (by omega) (by omega) (by omega) (by omega) (by omega)
  unfold PKW at *
  rw [g 4 (by decide), g 5 (by decide), g 7 (by decide), g 29 (by decide), g 30 (by decide), gm 90 (by decide), gm 92 (by decide), gm 103 (by decide), g2 25 (by decide), g2 39 (by decide), g2 41 (by decide), g2 46 (by decide)]
  exact h
theorem SJ.of {c len : Nat → Nat} {μ ν : zS} {q : Nat} (h : SJ c len μ q) (e : ν 92 q = μ 92 q) : SJ c len ν q := by
  unfold SJ at *
  rw [e]
  exact h
theorem LAT.of {c : Nat → Nat} {ws : Nat → Nat → Int64} {len : Nat → Nat} {ρ r μ ν : zS} {τ υ : zT} (h : LAT c ws len ρ τ μ) (e24 : r 24 = ρ 24) (e23 : υ 23 = τ 23) (e19 : ν 82 19 = μ 82 19) (e87 : ν 87 = μ 87) (e92 : ν 92 = μ 92) (e93 : ν 93 = μ 93) (e86 : ∀ p, 17 ≤ p → ν 86 p = μ 86 p) (e85 : ∀ j, 102 ≤ j → ν 85 j = μ 85 j) : LAT c ws len r υ ν := by
  obtain ⟨nz, wz, SL, h1, h2, h3, h4, h5⟩ := h
  refine ⟨nz, wz, SL, h1, e19.trans h2, fun l hl => ?_, h4, fun q hq => ?_⟩
  · obtain ⟨a, b, x, y⟩ := h3 l hl
    exact ⟨a.of (fun i hi => e85 _ (by omega)) (e86 _ (by omega)), b.of (by rw [e92]), by rw [e23]; exact x, by rw [e24, e87]; exact y⟩
  · rw [e93, e23]
    exact h5 q (hq.of (by rw [e92]))
theorem LAT.rd {c : Nat → Nat} {ws : Nat → Nat → Int64} {len : Nat → Nat} {ρ r μ ν : zS} {τ υ : zT} (h : LAT c ws len ρ τ μ) (x : RXF ρ r) (y : RTF τ υ) (m : RMF μ ν) : LAT c ws len r υ ν :=
  h.of (x.1 24 (by decide) (by decide) (by decide)) (y 23 (by decide) (by decide)) (m.2.1 19 (by decide) (by decide) (by decide) (by decide) (by decide) (by decide) (by decide) (by decide)) (m.1 87 (by decide) (by decide) (by decide)) (m.1 92 (by decide) (by decide) (by decide)) (m.1 93 (by decide) (by decide) (by decide)) (fun p hp => m.2.2.1 p (by omega)) (fun p hp => m.2.2.2 p (by omega))
theorem LAT.step {c : Nat → Nat} {ws : Nat → Nat → Int64} {len : Nat → Nat} {d t L : Nat} {k : Int32} {ρ r μ ν : zS} {τ υ : zT} (h : LAT c ws len ρ τ μ) (pk : PKW c len d ρ μ) (ht : t = c 2 - 1) (hL : L = len t) (x : CEx t L k ρ r) (m : MEx t L k μ ν) (y : υ 23 = τ 23) (hk : ¬ k = 10 ∧ ¬ k = 11) : LAT c ws (lUp len t (L + 1)) r υ ν := by
  obtain ⟨nz, wz, SL, h1, h2, h3, h4, h5⟩ := h
  have A : ∀ q, SJ c len μ q → q ≠ 24 * t + L := by
    rintro q ⟨⟨t', s, a1, a2, rfl⟩, _⟩ e
    have := (pk.1 t' a1).1
    by_cases q2 : t' = t
    · rw [q2] at a2 e; omega
    · omega
  have B : ∀ q, SJ c len μ q → SJ c (lUp len t (L + 1)) ν q := by
    intro q hq
    have ne := A q hq
    obtain ⟨⟨t', s, a1, a2, e⟩, b⟩ := hq
    refine ⟨⟨t', s, a1, ?_, e⟩, by rw [(m.2.2.2.2.2.1 q ne).1]; exact b⟩
    by_cases q2 : t' = t
    · rw [q2, lUp_at]; rw [q2] at a2; omega
    · rw [lUp_ne q2]; exact a2
  have C : ∀ q, SJ c (lUp len t (L + 1)) ν q → SJ c len μ q := by
    intro q hq
    obtain ⟨⟨t', s, a1, a2, e⟩, b⟩ := hq
    have ne : q ≠ 24 * t + L := by
      intro e2
      rw [e2, m.2.2.2.2.1] at b
      exact b.elim hk.1 hk.2
    refine ⟨⟨t', s, a1, ?_, e⟩, by rw [← (m.2.2.2.2.2.1 q ne).1]; exact b⟩
    by_cases q2 : t' = t
    · rw [q2, lUp_at] at a2
      rw [q2] at e ⊢
      omega
    · rw [lUp_ne q2] at a2; exact a2
  refine ⟨nz, wz, SL, h1, (m.2.1 19 (by decide)).trans h2, fun l hl => ?_, h4, fun q hq => ?_⟩
  · obtain ⟨a, b, u, v⟩ := h3 l hl
    refine ⟨a.of (fun i hi => m.2.2.2.2.2.2.2.1 _ (by omega)) (m.2.2.2.2.2.2.1 _ (by omega)), B _ b, by rw [y]; exact u, ?_⟩
    rw [x.2.2.2.2.2.2.2.2.1 _ (A _ b), m.1.1]; exact v
  · have q' := C q hq
    rw [(m.2.2.2.2.2.1 q (A q q')).2, y]
    exact h5 q q'
