-- both answer alike
set_option maxRecDepth 2000
def STT (σ : zS) (c2 : Nat) (len : Nat → Nat) (b : Nat) (t s : Nat) : Prop := t < c2 ∧ s < len t ∧ σ 92 (24 * t + s) = 10 ∧ σ 93 (24 * t + s) = Int32.ofNat b
def SEEN (σ : zS) (c2 : Nat) (len : Nat → Nat) (a b x q : Nat) (v4 v5 v6 v7 : Int32) : Prop :=
  (v4 = 0 ↔ ¬ ∃ t s, STT σ c2 len b t s ∧ 24 * t + s < q) ∧
  (v5 = 0 ↔ ∃ t s, STT σ c2 len b t s ∧ 24 * t + s < q ∧ t ≠ a) ∧
  (v6 = 0 ↔ ¬ ∃ s, STT σ c2 len b a s ∧ 24 * a + s < q ∧ CLO (EDG σ len a) (fun y => EDG σ len a s y) (fun _ => False) x) ∧
  (∀ s, s < 24 → (bit v7 s ↔ (s < len a ∧ 24 * a + s < q ∧ σ 92 (24 * a + s) = 11 ∧ σ 93 (24 * a + s) = Int32.ofNat b)))
theorem SEEN.zero {σ : zS} {c2 : Nat} {len : Nat → Nat} {a b x : Nat} : SEEN σ c2 len a b x 0 0 1 0 0 := by
  refine ⟨⟨fun _ ⟨t, s, _, w⟩ => absurd w (Nat.not_lt_zero _), fun _ => rfl⟩, ⟨fun w => absurd w (by decide), fun ⟨t, s, _, w, _⟩ => absurd w (Nat.not_lt_zero _)⟩, ⟨fun _ ⟨s, _, w, _⟩ => absurd w (Nat.not_lt_zero _), fun _ => rfl⟩, fun s hs => ⟨fun w => absurd w (bit_zero hs), fun w => absurd w.2.1 (Nat.not_lt_zero _)⟩⟩
theorem SEEN.skip {σ : zS} {c2 : Nat} {len : Nat → Nat} {a b x q : Nat} {v4 v5 v6 v7 : Int32} (h : SEEN σ c2 len a b x q v4 v5 v6 v7) (len24 : ∀ t, t < c2 → len t ≤ 24) (ha : a < c2) (no : ∀ t s, t < c2 → s < len t → 24 * t + s = q → ¬ ((σ 92 q = 10 ∨ (σ 92 q = 11 ∧ t = a)) ∧ σ 93 q = Int32.ofNat b)) : SEEN σ c2 len a b x (q + 1) v4 v5 v6 v7 := by
  obtain ⟨h1, h2, h3, h4⟩ := h
  have st : ∀ t s, STT σ c2 len b t s → 24 * t + s < q + 1 → 24 * t + s < q := fun t s w l => by
    by_cases e : 24 * t + s = q
    · obtain ⟨w1, w2, w3, w4⟩ := w
      rw [e] at w3 w4
      exact absurd ⟨Or.inl w3, w4⟩ (no t s w1 w2 e)
    · omega
  refine ⟨?_, ?_, ?_, fun s hs => ?_⟩
  · rw [h1]
    exact ⟨fun n ⟨t, s, w, l⟩ => n ⟨t, s, w, st t s w l⟩, fun n ⟨t, s, w, l⟩ => n ⟨t, s, w, by omega⟩⟩
  · rw [h2]
    exact ⟨fun ⟨t, s, w, l, e⟩ => ⟨t, s, w, by omega, e⟩, fun ⟨t, s, w, l, e⟩ => ⟨t, s, w, st t s w l, e⟩⟩
  · rw [h3]
    exact ⟨fun n ⟨s, w, l, e⟩ => n ⟨s, w, st a s w l, e⟩, fun n ⟨s, w, l, e⟩ => n ⟨s, w, by omega, e⟩⟩
  · rw [h4 s hs]
    constructor
    · rintro ⟨l, w, z⟩; exact ⟨l, by omega, z⟩
    · rintro ⟨l, w, z1, z2⟩
      refine ⟨l, ?_, z1, z2⟩
      by_cases e : 24 * a + s = q
      · rw [e] at z1 z2
        exact absurd ⟨Or.inr ⟨z1, rfl⟩, z2⟩ (no a s ha l e)
      · omega
theorem SEEN.join {σ : zS} {c2 : Nat} {len : Nat → Nat} {a b x q z : Nat} {v4 v5 v6 v7 : Int32} (h : SEEN σ c2 len a b x q v4 v5 v6 v7) (len24 : ∀ t, t < c2 → len t ≤ 24) (ha : a < c2) (hz : z < len a) (e : 24 * a + z = q) (k : σ 92 q = 11) (w : σ 93 q = Int32.ofNat b) : SEEN σ c2 len a b x (q + 1) v4 v5 v6 (v7 ||| zJ_shl 1 (Int32.ofNat z)) := by
  obtain ⟨h1, h2, h3, h4⟩ := h
  have l24 := len24 a ha
  have st : ∀ t s, STT σ c2 len b t s → 24 * t + s < q + 1 → 24 * t + s < q := fun t s y l => by
    by_cases c : 24 * t + s = q
    · have y3 := y.2.2.1
      rw [c, k] at y3
      exact absurd y3 (by decide)
    · omega
  refine ⟨?_, ?_, ?_, fun s hs => ?_⟩
  · rw [h1]
    exact ⟨fun n ⟨t, s, w, l⟩ => n ⟨t, s, w, st t s w l⟩, fun n ⟨t, s, w, l⟩ => n ⟨t, s, w, by omega⟩⟩
  · rw [h2]
    exact ⟨fun ⟨t, s, w, l, e⟩ => ⟨t, s, w, by omega, e⟩, fun ⟨t, s, w, l, e⟩ => ⟨t, s, w, st t s w l, e⟩⟩
  · rw [h3]
    exact ⟨fun n ⟨s, w, l, e⟩ => n ⟨s, w, st a s w l, e⟩, fun n ⟨s, w, l, e⟩ => n ⟨s, w, by omega, e⟩⟩
  · rw [bit_or hs, bit_shl (by omega) hs, h4 s hs]
    constructor
    · rintro (⟨l, y, z1⟩ | c)
      · exact ⟨l, by omega, z1⟩
      · rw [c, e]; exact ⟨hz, by omega, k, w⟩
    · rintro ⟨l, y, z1⟩
      by_cases c : s = z
      · exact Or.inr c
      · exact Or.inl ⟨l, by omega, z1⟩
theorem SEEN.start {σ : zS} {c2 : Nat} {len : Nat → Nat} {a b x q t z : Nat} {v4 v5 v6 v7 v5' v6' : Int32} (h : SEEN σ c2 len a b x q v4 v5 v6 v7) (len24 : ∀ t, t < c2 → len t ≤ 24) (ha : a < c2) (ht : t < c2) (hz : z < len t) (e : 24 * t + z = q) (k : σ 92 q = 10) (w : σ 93 q = Int32.ofNat b) (h5 : v5' = 0 ↔ (v5 = 0 ∨ t ≠ a)) (h6 : v6' = 0 ↔ (v6 = 0 ∧ ¬ (t = a ∧ CLO (EDG σ len a) (fun y => EDG σ len a z y) (fun _ => False) x))) : SEEN σ c2 len a b x (q + 1) 1 v5' v6' v7 := by
  obtain ⟨h1, h2, h3, h4⟩ := h
  have me : STT σ c2 len b t z := ⟨ht, hz, by rw [e]; exact k, by rw [e]; exact w⟩
  have one : ∀ t' s', STT σ c2 len b t' s' → 24 * t' + s' = q → t' = t ∧ s' = z := fun t' s' y c => by
    have := len24 t' y.1
    have := y.2.1
    have := len24 t ht
    omega
  refine ⟨⟨fun c => absurd c (by decide), fun n => absurd ⟨t, z, me, by omega⟩ n⟩, ?_, ?_, fun s hs => ?_⟩
  · rw [h5, h2]
    constructor
    · rintro (⟨t', s', y, l, c⟩ | c)
      · exact ⟨t', s', y, by omega, c⟩
      · exact ⟨t, z, me, by omega, c⟩
    · rintro ⟨t', s', y, l, c⟩
      by_cases d : 24 * t' + s' = q
      · rw [(one t' s' y d).1] at c; exact Or.inr c
      · exact Or.inl ⟨t', s', y, by omega, c⟩
  · rw [h6, h3]
    constructor
    · rintro ⟨n1, n2⟩ ⟨s', y, l, c⟩
      by_cases d : 24 * a + s' = q
      · obtain ⟨o1, o2⟩ := one a s' y d
        rw [o2] at c
        exact n2 ⟨o1.symm, c⟩
      · exact n1 ⟨s', y, by omega, c⟩
    · intro n
      refine ⟨fun ⟨s', y, l, c⟩ => n ⟨s', y, by omega, c⟩, fun ⟨o, c⟩ => ?_⟩
      subst o
      exact n ⟨z, me, by omega, c⟩
  · rw [h4 s hs]
    constructor
    · rintro ⟨l, y, z1⟩; exact ⟨l, by omega, z1⟩
    · rintro ⟨l, y, z1, z2⟩
      refine ⟨l, ?_, z1, z2⟩
      by_cases c : 24 * a + s = q
      · rw [c, k] at z1; exact absurd z1 (by decide)
      · omega
