-- both answer alike
set_option maxRecDepth 2000
def PRO (m S : Nat) (ρ μ : zS) (q : Nat) : Prop := ρ 7 q = μ 92 q ∧ (∃ z, z ≤ S ∧ ρ 9 q = Int32.ofNat z ∧ μ 94 q = Int32.ofNat z ∧ (μ 92 q = 13 → z = S)) ∧ ((μ 92 q = 5 ∨ μ 92 q = 6) → ∃ z, z ≤ S ∧ ρ 10 q = Int32.ofNat z ∧ μ 95 q = Int32.ofNat z) ∧ ((μ 92 q = 0 ∨ μ 92 q = 1) → ∃ f, f < 6 ∧ ρ 8 q = Int32.ofNat f ∧ μ 93 q = Int32.ofNat f) ∧ ((μ 92 q = 3 ∨ μ 92 q = 4 ∨ μ 92 q = 7 ∨ μ 92 q = 8 ∨ μ 92 q = 9 ∨ μ 92 q = 10 ∨ μ 92 q = 11) → ∃ l, l < 4 ∧ ρ 8 q = Int32.ofNat l ∧ μ 93 q = Int32.ofNat l ∧ ((μ 92 q = 10 ∨ μ 92 q = 11) → l < m)) ∧ ((μ 92 q = 0 ∨ μ 92 q = 2) → ∃ j, j < 3 ∧ ρ 13 q = Int32.ofNat j ∧ μ 98 q = Int32.ofNat j) ∧ WKV (ρ 7 q) (ρ 13 q) (ρ 14 q) (ρ 15 q) (ρ 16 q) μ q
def PC (m : Nat) (len : Nat → Nat) (nc : Nat → Nat → Nat) (ρ μ : zS) : Prop := (m ≤ 4 ∧ ρ 4 2 = Int32.ofNat m ∧ μ 82 17 = Int32.ofNat m) ∧ (∀ t, t < m → len t ≤ 24 ∧ ρ 5 t = Int32.ofNat (len t) ∧ μ 90 t = Int32.ofNat (len t)) ∧ (∀ t, m ≤ t → t < 4 → ρ 5 t = 0) ∧ (∀ t s, t < m → s < len t → PRO m (len t) ρ μ (24 * t + s)) ∧ (∀ t, t < m → NSR t (len t) ρ nc)
def HN (ρ : zS) (nc : Nat → Nat → Nat) (x : Nat → Int32) (t l : Nat) : Nat := if x (15 + 6 * t) = 1 then nc (24 * t + (x (14 + 6 * t)).toNatClampNeg) l else if x (15 + 6 * t) = 2 ∨ x (15 + 6 * t) = 3 then (if ρ 8 (24 * t + (x (14 + 6 * t)).toNatClampNeg) = Int32.ofNat l then 0 else nc (24 * t + (x (14 + 6 * t)).toNatClampNeg) l) else 0
def VLD (S : Nat) (ρ : zS) (nc : Nat → Nat → Nat) (t : Nat) (s h : Int32) : Prop := (h = 0 ∧ s = 0) ∨ ((h = 1 ∨ h = 5) ∧ ∃ z, z < S ∧ s = Int32.ofNat z) ∨ ((h = 2 ∨ h = 3) ∧ ∃ z l, z < S ∧ s = Int32.ofNat z ∧ ρ 7 (24 * t + z) = 7 ∧ l < 4 ∧ ρ 8 (24 * t + z) = Int32.ofNat l ∧ 0 < nc (24 * t + z) l) ∨ (h = 4 ∧ s = Int32.ofNat S)
def SVD (ρ : zS) (nc : Nat → Nat → Nat) (x : Nat → Int32) (t : Nat) : Prop := ((x (15 + 6 * t) = 2 ∨ x (15 + 6 * t) = 3) → ∀ z l, z < 24 → x (14 + 6 * t) = Int32.ofNat z → l < 4 → ρ 8 (24 * t + z) = Int32.ofNat l → x (19 + 6 * t) = Int32.ofNat (nc (24 * t + z) l)) ∧ (¬ (x (15 + 6 * t) = 2 ∨ x (15 + 6 * t) = 3) → x (19 + 6 * t) = 0)
def OWN (m : Nat) (hn : Nat → Nat → Nat) (x : Nat → Int32) (l : Nat) : Prop := ((∀ t, t < m → hn t l = 0) ∧ x (6 + l) = 0 ∧ x (10 + l) = 0) ∨ ∃ t, t < m ∧ 0 < hn t l ∧ (∀ t', t' < m → t' ≠ t → hn t' l = 0) ∧ x (6 + l) = Int32.ofNat (t + 1) ∧ x (10 + l) = Int32.ofNat (hn t l)
def ST (m : Nat) (len : Nat → Nat) (nc : Nat → Nat → Nat) (ρ : zS) (w x : Nat → Int32) : Prop := FWB (w 0) x ∧ (∀ t, t < m → TWB (w (t + 1)) (x (14 + 6 * t)) (x (15 + 6 * t)) (fun i => x (16 + 6 * t + i))) ∧ (∀ t, m ≤ t → t < 4 → w (t + 1) = 65536 ∧ ∀ i, i < 6 → x (14 + 6 * t + i) = 0) ∧ (∀ t, t < m → VLD (len t) ρ nc t (x (14 + 6 * t)) (x (15 + 6 * t))) ∧ (∀ t, t < m → SVD ρ nc x t) ∧ (∀ l, l < 4 → OWN m (HN ρ nc x) x l) ∧ (x 38 = 0 ∧ x 39 = 0)
theorem HN.congr {ρ : zS} {nc : Nat → Nat → Nat} {x x' : Nat → Int32} {t l : Nat} (e14 : x' (14 + 6 * t) = x (14 + 6 * t)) (e15 : x' (15 + 6 * t) = x (15 + 6 * t)) : HN ρ nc x' t l = HN ρ nc x t l := by
  unfold HN
  rw [e14, e15]
theorem OWN.congr {m : Nat} {hn hn' : Nat → Nat → Nat} {x x' : Nat → Int32} {l : Nat} (h : OWN m hn x l) (e : ∀ t, t < m → hn' t l = hn t l) (e6 : x' (6 + l) = x (6 + l)) (e10 : x' (10 + l) = x (10 + l)) : OWN m hn' x' l := by
  rcases h with ⟨h1, h2, h3⟩ | ⟨t, ht, h1, h2, h3, h4⟩
  · exact Or.inl ⟨fun t ht => (e t ht).trans (h1 t ht), e6.trans h2, e10.trans h3⟩
  · exact Or.inr ⟨t, ht, by rw [e t ht]; exact h1, fun t' ht' ne => (e t' ht').trans (h2 t' ht' ne), e6.trans h3, by rw [e10, e t ht]; exact h4⟩
theorem OWN.one {m : Nat} {hn hn' : Nat → Nat → Nat} {x x' : Nat → Int32} {l : Nat} (h : OWN m hn x l) (h' : OWN m hn' x' l) (e : ∀ t, t < m → hn' t l = hn t l) : x (6 + l) = x' (6 + l) ∧ x (10 + l) = x' (10 + l) := by
  rcases h with ⟨h1, h2, h3⟩ | ⟨t, ht, h1, h2, h3, h4⟩
  · rcases h' with ⟨_, k2, k3⟩ | ⟨t', ht', k1, _⟩
    · exact ⟨h2.trans k2.symm, h3.trans k3.symm⟩
    · rw [e t' ht', h1 t' ht'] at k1
      exact absurd k1 (by omega)
  · rcases h' with ⟨k1, _⟩ | ⟨t', ht', k1, k2, k3, k4⟩
    · have := k1 t ht
      rw [e t ht] at this
      omega
    · have tt : t' = t := by
        by_cases c : t' = t
        · exact c
        · rw [e t' ht', h2 t' ht' c] at k1
          omega
      subst tt
      exact ⟨h3.trans k3.symm, by rw [h4, k4, e t' ht']⟩
theorem ST.fwd {m : Nat} {len : Nat → Nat} {nc : Nat → Nat → Nat} {ρ : zS} {w w' x x' : Nat → Int32} (m4 : m ≤ 4) (l24 : ∀ t, t < m → len t ≤ 24) (h : ST m len nc ρ w x) (h' : ST m len nc ρ w' x') (e : SAME5 w w') : SAME40 x x' := by
  obtain ⟨a1, a2, a3, a4, a5, a6, a7⟩ := h
  obtain ⟨b1, b2, b3, b4, b5, b6, b7⟩ := h'
  have ew : ∀ t, t < m → w' (t + 1) = w (t + 1) := fun t ht => (e (t + 1) (by omega)).symm
  have st : ∀ t, t < m → x' (14 + 6 * t) = x (14 + 6 * t) := fun t ht => by rw [← (b2 t ht).stp, ← (a2 t ht).stp, ew t ht]
  have hw : ∀ t, t < m → x' (15 + 6 * t) = x (15 + 6 * t) := fun t ht => by rw [← (b2 t ht).how, ← (a2 t ht).how, ew t ht]
  have lc : ∀ t, t < m → ∀ i, i < 3 → x' (16 + 6 * t + i) = x (16 + 6 * t + i) := fun t ht i hi => by
    have p := (b2 t ht).loc hi
    have q := (a2 t ht).loc hi
    rw [← p, ← q, ew t ht]
  have hn : ∀ t l, t < m → HN ρ nc x' t l = HN ρ nc x t l := fun t l ht => HN.congr (st t ht) (hw t ht)
  intro i hi
  by_cases c6 : i < 6
  · rw [← a1.get c6, ← b1.get c6, e 0 (by omega)]
  · by_cases c10 : i < 10
    · have := ((a6 (i - 6) (by omega)).one (b6 (i - 6) (by omega)) fun t ht => hn t _ ht).1
      rw [show 6 + (i - 6) = i by omega] at this
      exact this
    · by_cases c14 : i < 14
      · have := ((a6 (i - 10) (by omega)).one (b6 (i - 10) (by omega)) fun t ht => hn t _ ht).2
        rw [show 10 + (i - 10) = i by omega] at this
        exact this
      · by_cases c38 : i < 38
        · have ti : 14 + 6 * ((i - 14) / 6) + (i - 14) % 6 = i := by omega
          by_cases tm : (i - 14) / 6 < m
          · have r6 : (i - 14) % 6 < 6 := Nat.mod_lt _ (by decide)
            generalize ht : (i - 14) / 6 = t at *
            generalize hr : (i - 14) % 6 = r at *
            by_cases r0 : r = 0
            · rw [show i = 14 + 6 * t by omega]; exact (st t tm).symm
            · by_cases r1 : r = 1
              · rw [show i = 15 + 6 * t by omega]; exact (hw t tm).symm
              · by_cases r5 : r = 5
                · rw [show i = 19 + 6 * t by omega]
                  have sa := a5 t tm
                  have sb := b5 t tm
                  by_cases k : x (15 + 6 * t) = 2 ∨ x (15 + 6 * t) = 3
                  · have k' : x' (15 + 6 * t) = 2 ∨ x' (15 + 6 * t) = 3 := by rw [hw t tm]; exact k
                    rcases a4 t tm with v | v | ⟨_, z, l, zS, es, _, l4, e8, _⟩ | v
                    · rcases k with q | q <;> rw [v.1] at q <;> exact absurd q (by decide)
                    · rcases k with q | q <;> rcases v.1 with v | v <;> rw [v] at q <;> exact absurd q (by decide)
                    · have zl := l24 t tm
                      rw [sa.1 k z l (by omega) es l4 e8, sb.1 k' z l (by omega) ((st t tm).trans es) l4 e8]
                    · rcases k with q | q <;> rw [v.1] at q <;> exact absurd q (by decide)
                  · rw [sa.2 k, sb.2 (by rw [hw t tm]; exact k)]
                · have := lc t tm (r - 2) (by omega)
                  rw [show 16 + 6 * t + (r - 2) = i by omega] at this
                  exact this.symm
          · have p := (a3 ((i - 14) / 6) (by omega) (by omega)).2 ((i - 14) % 6) (Nat.mod_lt _ (by decide))
            have q := (b3 ((i - 14) / 6) (by omega) (by omega)).2 ((i - 14) % 6) (Nat.mod_lt _ (by decide))
            rw [ti] at p q
            rw [p, q]
        · by_cases c39 : i = 38
          · rw [c39, a7.1, b7.1]
          · rw [show i = 39 by omega, a7.2, b7.2]
theorem ST.bwd {m : Nat} {len : Nat → Nat} {nc : Nat → Nat → Nat} {ρ : zS} {w w' x x' : Nat → Int32} (m4 : m ≤ 4) (h : ST m len nc ρ w x) (h' : ST m len nc ρ w' x') (e : SAME40 x x') : SAME5 w w' := by
  obtain ⟨a1, a2, a3, _⟩ := h
  obtain ⟨b1, b2, b3, _⟩ := h'
  intro i hi
  by_cases c : i = 0
  · rw [c]
    exact a1.one b1 fun f hf => e f (by omega)
  · by_cases tm : i - 1 < m
    · have p := a2 (i - 1) tm
      have q := b2 (i - 1) tm
      rw [show i - 1 + 1 = i by omega] at p q
      rw [← e (14 + 6 * (i - 1)) (by omega), ← e (15 + 6 * (i - 1)) (by omega)] at q
      exact p.one q fun j hj => e (16 + 6 * (i - 1) + j) (by omega)
    · have p := (a3 (i - 1) (by omega) (by omega)).1
      have q := (b3 (i - 1) (by omega) (by omega)).1
      rw [show i - 1 + 1 = i by omega] at p q
      rw [p, q]
theorem ST.byte {m : Nat} {len : Nat → Nat} {nc : Nat → Nat → Nat} {ρ μ : zS} {w x : Nat → Int32} (pc : PC m len nc ρ μ) (h : ST m len nc ρ w x) : ∀ i, i < 40 → 0 ≤ x i ∧ x i ≤ 127 := by
  obtain ⟨a1, a2, a3, a4, a5, a6, a7⟩ := h
  obtain ⟨⟨m4, _⟩, p2, _, _, p5⟩ := pc
  have small : ∀ n : Nat, n ≤ 100 → (0 : Int32) ≤ Int32.ofNat n ∧ Int32.ofNat n ≤ 127 := fun n hn => ⟨(zo_le (k := 0) (j := n) (by omega) (by omega)).mpr (Nat.zero_le _), (zo_le (k := n) (j := 127) (by omega) (by omega)).mpr (by omega)⟩
  have z : ∀ v : Int32, v = 0 → 0 ≤ v ∧ v ≤ 127 := fun v e => by rw [e]; decide
  have l7 : ∀ v : Int32, 0 ≤ v ∧ v ≤ 7 → 0 ≤ v ∧ v ≤ 127 := fun v e => ⟨e.1, Int32.le_trans e.2 (by decide)⟩
  have l31 : ∀ v : Int32, 0 ≤ v ∧ v ≤ 31 → 0 ≤ v ∧ v ≤ 127 := fun v e => ⟨e.1, Int32.le_trans e.2 (by decide)⟩
  have n8 : ∀ t z l, t < m → z < len t → l < 4 → nc (24 * t + z) l ≤ 8 := fun t z l ht hz hl => ((p5 t ht).1 z hz l hl).2.1
  have hn8 : ∀ t l, t < m → l < 4 → HN ρ nc x t l ≤ 8 := fun t l ht hl => by
    unfold HN
    have zl := (p2 t ht).1
    rcases a4 t ht with v | ⟨v, z, zS, es⟩ | ⟨v, z, l', zS, es, _⟩ | v
    · rw [v.1, if_neg (by decide), if_neg (by decide)]; omega
    · rw [es, zo_n (by omega)]
      rcases v with v | v
      · rw [v, if_pos rfl]; exact n8 t z l ht zS hl
      · rw [v, if_neg (by decide), if_neg (by decide)]; omega
    · rw [es, zo_n (by omega), if_neg (by rcases v with v | v <;> rw [v] <;> decide), if_pos v]
      by_cases c : ρ 8 (24 * t + z) = Int32.ofNat l
      · rw [if_pos c]; omega
      · rw [if_neg c]; exact n8 t z l ht zS hl
    · rw [v.1, if_neg (by decide), if_neg (by decide)]; omega
  intro i hi
  by_cases c6 : i < 6
  · exact l7 _ (a1.1 i c6)
  · by_cases c10 : i < 10
    · have q := a6 (i - 6) (by omega)
      unfold OWN at q
      rw [show 6 + (i - 6) = i by omega] at q
      rcases q with ⟨_, q, _⟩ | ⟨t, ht, _, _, q, _⟩
      · exact z _ q
      · rw [q]; exact small _ (by omega)
    · by_cases c14 : i < 14
      · have q := a6 (i - 10) (by omega)
        unfold OWN at q
        rw [show 10 + (i - 10) = i by omega] at q
        rcases q with ⟨_, _, q⟩ | ⟨t, ht, _, _, _, q⟩
        · exact z _ q
        · rw [q]; exact small _ (by have := hn8 t (i - 10) ht (by omega); omega)
      · by_cases c38 : i < 38
        · have ti : 14 + 6 * ((i - 14) / 6) + (i - 14) % 6 = i := by omega
          have r6 : (i - 14) % 6 < 6 := Nat.mod_lt _ (by decide)
          by_cases tm : (i - 14) / 6 < m
          · generalize ht : (i - 14) / 6 = t at *
            generalize hr : (i - 14) % 6 = r at *
            have tw := a2 t tm
            by_cases r0 : r = 0
            · rw [show i = 14 + 6 * t by omega]; exact l31 _ tw.1.1
            · by_cases r1 : r = 1
              · rw [show i = 15 + 6 * t by omega]; exact l7 _ tw.1.2.1
              · by_cases r5 : r = 5
                · rw [show i = 19 + 6 * t by omega]
                  have sa := a5 t tm
                  by_cases k : x (15 + 6 * t) = 2 ∨ x (15 + 6 * t) = 3
                  · rcases a4 t tm with v | v | ⟨_, z, l, zS, es, _, l4, e8, _⟩ | v
                    · rcases k with q | q <;> rw [v.1] at q <;> exact absurd q (by decide)
                    · rcases k with q | q <;> rcases v.1 with v | v <;> rw [v] at q <;> exact absurd q (by decide)
                    · have zl := (p2 t tm).1
                      rw [sa.1 k z l (by omega) es l4 e8]
                      exact small _ (by have := n8 t z l tm zS l4; omega)
                    · rcases k with q | q <;> rw [v.1] at q <;> exact absurd q (by decide)
                  · exact z _ (sa.2 k)
                · have := tw.1.2.2 (r - 2) (by omega)
                  dsimp only at this
                  rw [show 16 + 6 * t + (r - 2) = i by omega] at this
                  exact l7 _ this
          · have p := (a3 ((i - 14) / 6) (by omega) (by omega)).2 ((i - 14) % 6) r6
            rw [ti] at p
            exact z _ p
        · by_cases c39 : i = 38
          · rw [c39]; exact z _ a7.1
          · rw [show i = 39 by omega]; exact z _ a7.2
