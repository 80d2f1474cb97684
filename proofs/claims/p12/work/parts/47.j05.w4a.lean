-- both answer alike
set_option maxRecDepth 2000
def SBJ (k x y : Int32) : Prop := ((k = 0 ∨ k = 1 ∨ k = 3 ∨ k = 4 ∨ k = 7 ∨ k = 8 ∨ k = 9) → x = y) ∧ (¬ (k = 0 ∨ k = 1 ∨ k = 3 ∨ k = 4 ∨ k = 7 ∨ k = 8 ∨ k = 9) → x = -1)
def RQ (ρ μ : zS) (q : Nat) : Prop := ρ 11 q = μ 96 q ∧ ρ 12 q = μ 97 q ∧ ρ 10 q = μ 95 q ∧ (¬ (μ 92 q = 5 ∨ μ 92 q = 6) → ρ 10 q = -1) ∧ SBJ (μ 92 q) (ρ 8 q) (μ 93 q)
def WRT (t n : Nat) (ρ μ : zS) : Prop := ∀ s, s < n → RQ ρ μ (24 * t + s) ∧ ρ 9 (24 * t + s) = μ 94 (24 * t + s) ∧ (μ 92 (24 * t + s) = 13 → ρ 9 (24 * t + s) = Int32.ofNat n)
def WRC (t n : Nat) (ρ μ : zS) : Prop := ∀ s, s < n → RQ ρ μ (24 * t + s) ∧ (μ 92 (24 * t + s) ≠ 13 → ρ 9 (24 * t + s) = μ 94 (24 * t + s))
def MKS (t n d : Nat) (ρ μ : zS) : Prop := ∀ i, i < d → ((μ 103 i = 0 ↔ i = 0) ∧ (μ 103 i = 0 ∨ μ 103 i = 1 ∨ μ 103 i = 2 ∨ μ 103 i = 3 ∨ μ 103 i = 4 ∨ μ 103 i = 5)) ∧
  ((μ 103 i = 3 ∨ μ 103 i = 4 ∨ μ 103 i = 5) → ∃ s, s < n ∧ ρ 31 i = Int32.ofNat s ∧ μ 104 i = Int32.ofNat s ∧ (μ 92 (24 * t + s) = 5 ∨ μ 92 (24 * t + s) = 6)) ∧
  (μ 103 i = 1 → ∃ s, s < n ∧ μ 104 i = Int32.ofNat s ∧ ρ 31 i = μ 93 (24 * t + s) ∧ μ 96 (24 * t + s) = ρ 34 i ∧ μ 106 i = ρ 34 i ||| zJ_shl 1 (ρ 31 i))
def WAY (t n d : Nat) (ρ μ : zS) : Prop := (∀ lo, Ch (μ 102) lo (μ 82 37) → SET (fun s => μ 92 (24 * t + s)) n (ρ 29 9) (ρ 29 10) lo) ∧ (∀ i, i < d → μ 103 i = 4 → ∀ l, Ch (μ 102) l (μ 105 i) → SET (fun s => μ 92 (24 * t + s)) n (ρ 32 i) (ρ 33 i) l)
def WVX (c len : Nat → Nat) (d : Nat) (ρ μ : zS) : Prop := (∀ t, t + 1 < c 2 → WRT t (len t) ρ μ) ∧ (0 < d → WRC (c 2 - 1) (len (c 2 - 1)) ρ μ ∧ MKS (c 2 - 1) (len (c 2 - 1)) d ρ μ ∧ WAY (c 2 - 1) (len (c 2 - 1)) d ρ μ ∧ ρ 29 11 = μ 82 40)
def CHX (n d : Nat) (μ : zS) : Prop := (∃ lo, Ch (μ 102) lo (μ 82 37) ∧ ∀ k, k ∈ lo → k < 2 * n) ∧ (∀ i, i < d → μ 103 i = 4 → ∃ l, Ch (μ 102) l (μ 105 i) ∧ ∀ k, k ∈ l → k < 2 * n)
theorem RQ.of {ρ μ r ν : zS} {q : Nat} (h : RQ ρ μ q) (e : r 8 q = ρ 8 q ∧ r 10 q = ρ 10 q ∧ r 11 q = ρ 11 q ∧ r 12 q = ρ 12 q) (f : ν 92 q = μ 92 q ∧ ν 93 q = μ 93 q ∧ ν 95 q = μ 95 q ∧ ν 96 q = μ 96 q ∧ ν 97 q = μ 97 q) : RQ r ν q := by
  unfold RQ at *
  rw [e.1, e.2.1, e.2.2.1, e.2.2.2, f.1, f.2.1, f.2.2.1, f.2.2.2.1, f.2.2.2.2]
  exact h
def CE2 (t L : Nat) (ρ r : zS) : Prop := (r 11 (24 * t + L) = ρ 29 11 ∧ r 12 (24 * t + L) = ρ 29 12) ∧ (∀ j, j ≠ 24 * t + L → r 8 j = ρ 8 j ∧ r 11 j = ρ 11 j ∧ r 12 j = ρ 12 j) ∧ EW t L ρ r ∧ r 29 11 = ρ 29 11 ∧ (∀ q, q = 31 ∨ q = 32 ∨ q = 33 ∨ q = 34 → r q = ρ q)
def ME2 (t L : Nat) (k : Int32) (μ ν : zS) : Prop := (ν 96 (24 * t + L) = μ 82 40 ∧ ν 97 (24 * t + L) = μ 82 41) ∧ (∀ j, j ≠ 24 * t + L → ν 96 j = μ 96 j ∧ ν 97 j = μ 97 j) ∧ (∀ lo, Ch (μ 102) lo (μ 82 37) → (∀ j, j ∈ lo → j < 2 * L) → AW t L lo k μ ν) ∧ ν 82 40 = μ 82 40 ∧ (∀ q, q = 104 ∨ q = 105 ∨ q = 106 → ν q = μ q)
def CHW (n d : Nat) (μ : zS) (own : Nat → Nat) (lo : List Nat) (lw : Nat → List Nat) : Prop :=
  (Ch (μ 102) lo (μ 82 37) ∧ ∀ k, k ∈ lo → own k = 1) ∧ (∀ i, i < d → μ 103 i = 4 → Ch (μ 102) (lw i) (μ 105 i) ∧ ∀ k, k ∈ lw i → own k = i + 2) ∧ (∀ k, 2 * n ≤ k → own k = 0) ∧ (∀ i, i < d → (μ 103 i = 3 ∨ μ 103 i = 5) → ∀ z : Nat, z < 24 → μ 104 i = Int32.ofNat z → own (2 * z + 1) = 0) ∧ (∀ i j, i < j → j < d → (μ 103 i = 3 ∨ μ 103 i = 4 ∨ μ 103 i = 5) → (μ 103 j = 3 ∨ μ 103 j = 4 ∨ μ 103 j = 5) → ∀ z z' : Nat, z < 24 → z' < 24 → μ 104 i = Int32.ofNat z → μ 104 j = Int32.ofNat z' → z < z')
theorem CHW.x {n d : Nat} {μ : zS} {own : Nat → Nat} {lo : List Nat} {lw : Nat → List Nat} (h : CHW n d μ own lo lw) : CHX n d μ := by
  have lt : ∀ k, own k ≠ 0 → k < 2 * n := fun k hk => by
    by_cases q : k < 2 * n
    · exact q
    · exact absurd (h.2.2.1 k (by omega)) hk
  exact ⟨⟨lo, h.1.1, fun k hk => lt k (by rw [h.1.2 k hk]; decide)⟩, fun i hi h4 => ⟨lw i, (h.2.1 i hi h4).1, fun k hk => lt k (by rw [(h.2.1 i hi h4).2 k hk]; omega)⟩⟩
def WVP (t n : Nat) (ρ μ : zS) : Prop := ∀ lo, Ch (μ 102) lo (μ 82 37) → ∀ s, s < n → (ρ 11 (24 * t + s) = μ 96 (24 * t + s) ∧ ρ 12 (24 * t + s) = μ 97 (24 * t + s) ∧ SBJ (μ 92 (24 * t + s)) (ρ 8 (24 * t + s)) (μ 93 (24 * t + s))) ∧ ((2 * s + 1 ∈ lo → ρ 10 (24 * t + s) = Int32.ofNat n) ∧ (2 * s + 1 ∉ lo → ρ 10 (24 * t + s) = μ 95 (24 * t + s)) ∧ (¬ (μ 92 (24 * t + s) = 5 ∨ μ 92 (24 * t + s) = 6) → ρ 10 (24 * t + s) = -1)) ∧ ((μ 92 (24 * t + s) = 13 → ρ 9 (24 * t + s) = Int32.ofNat n) ∧ (μ 92 (24 * t + s) ≠ 13 → (2 * s ∈ lo → ρ 9 (24 * t + s) = Int32.ofNat n) ∧ (2 * s ∉ lo → ρ 9 (24 * t + s) = μ 94 (24 * t + s))))
theorem Ch.one {ch : Nat → Int32} {k : Nat} (hk : k < 48) (h : ch k = -1) : Ch ch [k] (Int32.ofNat k) := ⟨⟨hk, zo_ti (by omega)⟩, h⟩
def VX (c len : Nat → Nat) (d : Nat) (ρ μ : zS) : Prop := WVX c len d ρ μ ∧ (0 < d → ∃ own lo lw, CHW (len (c 2 - 1)) d μ own lo lw)
theorem SBJ.no {k x y : Int32} (h : ¬ (k = 0 ∨ k = 1 ∨ k = 3 ∨ k = 4 ∨ k = 7 ∨ k = 8 ∨ k = 9)) (e : x = -1) : SBJ k x y := ⟨fun q => absurd q h, fun _ => e⟩
theorem SBJ.eq {k x y : Int32} (h : k = 0 ∨ k = 1 ∨ k = 3 ∨ k = 4 ∨ k = 7 ∨ k = 8 ∨ k = 9) (e : x = y) : SBJ k x y := ⟨fun _ => e, fun q => absurd h q⟩
def WVQ (t n : Nat) (ρ μ : zS) : Prop := WVP t n ρ μ ∧ (∃ lo, Ch (μ 102) lo (μ 82 37)) ∧ μ 82 39 = Int32.ofNat t
