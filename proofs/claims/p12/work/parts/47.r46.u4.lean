-- both answer alike
set_option maxRecDepth 2000
def HNA (ρ : zS) (nc : Nat → Nat → Nat) (x : Nat → Int32) (t : Nat) (a : Nat → Nat) (u l : Nat) : Nat := if u = t then a l else HN ρ nc x u l
def MID (m : Nat) (len : Nat → Nat) (nc : Nat → Nat → Nat) (ρ : zS) (t : Nat) (a : Nat → Nat) (w x : Nat → Int32) : Prop := FWB (w 0) x ∧ ((∀ u, u < m → u ≠ t → TWB (w (u + 1)) (x (14 + 6 * u)) (x (15 + 6 * u)) (fun i => x (16 + 6 * u + i))) ∧ ∃ s h, TWB (w (t + 1)) s h (fun i => x (16 + 6 * t + i))) ∧ (∀ u, m ≤ u → u < 4 → w (u + 1) = 65536 ∧ ∀ i, i < 6 → x (14 + 6 * u + i) = 0) ∧ (∀ u, u < m → u ≠ t → VLD (len u) ρ nc u (x (14 + 6 * u)) (x (15 + 6 * u))) ∧ ((∀ u, u < m → u ≠ t → SVD ρ nc x u) ∧ x (19 + 6 * t) = 0) ∧ (∀ l, l < 4 → OWN m (HNA ρ nc x t a) x l) ∧ (x 38 = 0 ∧ x 39 = 0)
theorem HNA.at {ρ : zS} {nc : Nat → Nat → Nat} {x : Nat → Int32} {t l : Nat} {a : Nat → Nat} : HNA ρ nc x t a t l = a l := if_pos rfl
theorem HNA.ne {ρ : zS} {nc : Nat → Nat → Nat} {x : Nat → Int32} {t u l : Nat} {a : Nat → Nat} (h : u ≠ t) : HNA ρ nc x t a u l = HN ρ nc x u l := if_neg h
theorem ST.mid {m t z : Nat} {len : Nat → Nat} {nc : Nat → Nat → Nat} {ρ : zS} {w x : Nat → Int32} (h : ST m len nc ρ w x) (ht : t < m) (h1 : x (15 + 6 * t) = 1) (es : x (14 + 6 * t) = Int32.ofNat z) (hz : z < 24) : MID m len nc ρ t (nc (24 * t + z)) w x := by
  obtain ⟨a1, a2, a3, a4, a5, a6, a7⟩ := h
  refine ⟨a1, ⟨fun u hu _ => a2 u hu, _, _, a2 t ht⟩, a3, fun u hu _ => a4 u hu, ⟨fun u hu _ => a5 u hu, (a5 t ht).2 (by rw [h1]; decide)⟩, fun l hl => (a6 l hl).congr (fun u hu => ?_) rfl rfl, a7⟩
  by_cases c : u = t
  · rw [c, HNA.at, HN.run h1 es (by omega)]
  · rw [HNA.ne c]
theorem MID.of {m t : Nat} {len : Nat → Nat} {nc : Nat → Nat → Nat} {ρ : zS} {a : Nat → Nat} {w w' x x' : Nat → Int32} (m4 : m ≤ 4) (ht : t < m) (h : MID m len nc ρ t a w x) (ew : ∀ i, i < 5 → w' i = w i) (ex : ∀ i, i < 40 → i ≠ 14 + 6 * t → i ≠ 15 + 6 * t → x' i = x i) : MID m len nc ρ t a w' x' := by
  obtain ⟨a1, ⟨a2, s, hh, a2'⟩, a3, a4, ⟨a5, a5'⟩, a6, a7⟩ := h
  refine ⟨?_, ⟨fun u hu ne => ?_, s, hh, ?_⟩, fun u hu h4 => ?_, fun u hu ne => ?_, ⟨fun u hu ne => ?_, ?_⟩, fun l hl => (a6 l hl).congr (fun u hu => ?_) (ex _ (by omega) (by omega) (by omega)) (ex _ (by omega) (by omega) (by omega)), ?_⟩
  · rw [ew 0 (by omega)]
    exact a1.of fun f hf => ex f (by omega) (by omega) (by omega)
  · rw [ew (u + 1) (by omega)]
    exact (a2 u hu ne).of (ex _ (by omega) (by omega) (by omega)) (ex _ (by omega) (by omega) (by omega)) fun i hi => ex _ (by omega) (by omega) (by omega)
  · rw [ew (t + 1) (by omega)]
    exact a2'.of rfl rfl fun i hi => ex _ (by omega) (by omega) (by omega)
  · rw [ew (u + 1) (by omega)]
    exact ⟨(a3 u hu h4).1, fun i hi => by rw [ex _ (by omega) (by omega) (by omega)]; exact (a3 u hu h4).2 i hi⟩
  · rw [ex _ (by omega) (by omega) (by omega), ex (15 + 6 * u) (by omega) (by omega) (by omega)]; exact a4 u hu ne
  · unfold SVD
    rw [ex (15 + 6 * u) (by omega) (by omega) (by omega), ex (14 + 6 * u) (by omega) (by omega) (by omega), ex (19 + 6 * u) (by omega) (by omega) (by omega)]
    exact a5 u hu ne
  · rw [ex _ (by omega) (by omega) (by omega)]; exact a5'
  · by_cases c : u = t
    · rw [c, HNA.at, HNA.at]
    · rw [HNA.ne c, HNA.ne c]
      exact HN.congr (ex _ (by omega) (by omega) (by omega)) (ex _ (by omega) (by omega) (by omega))
  · rw [ex 38 (by omega) (by omega) (by omega), ex 39 (by omega) (by omega) (by omega)]; exact a7
theorem MID.fin {m t : Nat} {len : Nat → Nat} {nc : Nat → Nat → Nat} {ρ : zS} {a : Nat → Nat} {w w' x x' : Nat → Int32} {s' h' : Int32} (m4 : m ≤ 4) (ht : t < m) (h : MID m len nc ρ t a w x) (ew : ∀ i, i < 5 → i ≠ t + 1 → w' i = w i) (et : ∃ k, (k = 511 ∨ k = 131583) ∧ w' (t + 1) = ((w (t + 1) &&& k) ||| (zJ_shl s' 9)) ||| (zJ_shl h' 14)) (s31 : 0 ≤ s' ∧ s' ≤ 31) (h7 : 0 ≤ h' ∧ h' ≤ 7) (hn : ¬ (h' = 2 ∨ h' = 3)) (e14 : x' (14 + 6 * t) = s') (e15 : x' (15 + 6 * t) = h') (ex : ∀ i, i < 40 → (i < 6 ∨ 14 ≤ i) → i ≠ 14 + 6 * t → i ≠ 15 + 6 * t → x' i = x i) (vl : VLD (len t) ρ nc t s' h') (lk : ∀ l, l < 4 → (HN ρ nc x' t l = a l ∧ x' (6 + l) = x (6 + l) ∧ x' (10 + l) = x (10 + l)) ∨ (HN ρ nc x' t l = 0 ∧ (x (6 + l) = Int32.ofNat (t + 1) → x' (6 + l) = 0 ∧ x' (10 + l) = 0) ∧ (¬ x (6 + l) = Int32.ofNat (t + 1) → x' (6 + l) = x (6 + l) ∧ x' (10 + l) = x (10 + l)))) : ST m len nc ρ w' x' := by
  obtain ⟨a1, ⟨a2, s, hh, a2'⟩, a3, a4, ⟨a5, a5'⟩, a6, a7⟩ := h
  have hu' : ∀ u l, u < m → u ≠ t → HN ρ nc x' u l = HN ρ nc x u l := fun u l hu ne => HN.congr (ex _ (by omega) (by omega) (by omega) (by omega)) (ex _ (by omega) (by omega) (by omega) (by omega))
  refine ⟨?_, fun u hu => ?_, fun u hu h4 => ?_, fun u hu => ?_, fun u hu => ?_, fun l hl => ?_, ?_⟩
  · rw [ew 0 (by omega) (by omega)]
    exact a1.of fun f hf => ex f (by omega) (by omega) (by omega) (by omega)
  · by_cases c : u = t
    · subst c
      obtain ⟨k, hk, e⟩ := et
      rw [e, e14, e15]
      exact (a2'.plc hk s31 h7).of rfl rfl fun i hi => ex _ (by omega) (by omega) (by omega) (by omega)
    · rw [ew (u + 1) (by omega) (by omega)]
      exact (a2 u hu c).of (ex _ (by omega) (by omega) (by omega) (by omega)) (ex _ (by omega) (by omega) (by omega) (by omega)) fun i hi => ex _ (by omega) (by omega) (by omega) (by omega)
  · rw [ew (u + 1) (by omega) (by omega)]
    exact ⟨(a3 u hu h4).1, fun i hi => by rw [ex _ (by omega) (by omega) (by omega) (by omega)]; exact (a3 u hu h4).2 i hi⟩
  · by_cases c : u = t
    · subst c
      rw [e14, e15]
      exact vl
    · rw [ex (14 + 6 * u) (by omega) (by omega) (by omega) (by omega), ex (15 + 6 * u) (by omega) (by omega) (by omega) (by omega)]; exact a4 u hu c
  · by_cases c : u = t
    · subst c
      refine ⟨fun q => ?_, fun _ => ?_⟩
      · rw [e15] at q
        exact absurd q hn
      · rw [ex _ (by omega) (by omega) (by omega) (by omega)]; exact a5'
    · unfold SVD
      rw [ex (15 + 6 * u) (by omega) (by omega) (by omega) (by omega), ex (14 + 6 * u) (by omega) (by omega) (by omega) (by omega), ex (19 + 6 * u) (by omega) (by omega) (by omega) (by omega)]
      exact a5 u hu c
  · rcases lk l hl with ⟨k1, k2, k3⟩ | ⟨k1, k2, k3⟩
    · refine (a6 l hl).congr (fun u hu => ?_) k2 k3
      by_cases c : u = t
      · rw [c, k1, HNA.at]
      · rw [HNA.ne c, hu' u l hu c]
    · rcases a6 l hl with ⟨b1, b2, b3⟩ | ⟨u, hu, b1, b2, b3, b4⟩
      · have ne : ¬ x (6 + l) = Int32.ofNat (t + 1) := fun q => by
          have := zo_inj (k := 0) (j := t + 1) (by omega) (by omega) (b2.symm.trans q)
          omega
        obtain ⟨g1, g2⟩ := k3 ne
        refine Or.inl ⟨fun u hu => ?_, g1.trans b2, g2.trans b3⟩
        by_cases c : u = t
        · rw [c]; exact k1
        · rw [hu' u l hu c]
          have := b1 u hu
          rw [HNA.ne c] at this
          exact this
      · by_cases c : u = t
        · subst c
          obtain ⟨g1, g2⟩ := k2 b3
          refine Or.inl ⟨fun v hv => ?_, g1, g2⟩
          by_cases d : v = u
          · rw [d]; exact k1
          · rw [hu' v l hv d]
            have := b2 v hv d
            rw [HNA.ne d] at this
            exact this
        · have ne : ¬ x (6 + l) = Int32.ofNat (t + 1) := fun q => by
            have := zo_inj (k := u + 1) (j := t + 1) (by omega) (by omega) (b3.symm.trans q)
            omega
          obtain ⟨g1, g2⟩ := k3 ne
          rw [HNA.ne c] at b1 b4
          refine Or.inr ⟨u, hu, by rw [hu' u l hu c]; exact b1, fun v hv d => ?_, g1.trans b3, by rw [g2, hu' u l hu c]; exact b4⟩
          by_cases f : v = t
          · rw [f]; exact k1
          · rw [hu' v l hv f]
            have := b2 v hv d
            rw [HNA.ne f] at this
            exact this
  · rw [ex 38 (by omega) (by omega) (by omega) (by omega), ex 39 (by omega) (by omega) (by omega) (by omega)]; exact a7
theorem c_place {σ : zS} {t : Nat} {s h : Int32} (t4 : t < 4) : zp (zf_Machine_place σ (Int32.ofNat t) s h) (fun r => (∀ q, q ≠ 40 → r q = σ q) ∧ (∀ i, i ≠ t + 1 → r 40 i = σ 40 i) ∧ ∃ k, (k = 511 ∨ k = 131583) ∧ r 40 (t + 1) = ((σ 40 (t + 1) &&& k) ||| (zJ_shl s 9)) ||| (zJ_shl h 14)) := by
  have A : ∀ k : Int32, (k = 511 ∨ k = 131583) → zp (zb_Machine_place_30 σ (Int32.ofNat t) s h k) (fun r => (∀ q, q ≠ 40 → r q = σ q) ∧ (∀ i, i ≠ t + 1 → r 40 i = σ 40 i) ∧ ∃ k, (k = 511 ∨ k = 131583) ∧ r 40 (t + 1) = ((σ 40 (t + 1) &&& k) ||| (zJ_shl s 9)) ||| (zJ_shl h 14)) := fun k hk => by
    unfold zb_Machine_place_30
    rw [zo_1 (by omega), zo_n (by omega)]
    refine zp_ite (fun q => ?_) fun _ => zp_ite (fun q => ?_) fun _ => zp_chk fun _ => zp_chk fun _ => zp_some ⟨fun q hq => zu_other hq, fun i hi => by rw [zx_up_same, zu_ne hi], k, hk, by rw [zx_up_same, zu_eq]⟩
    · have := (zo_lt (k := t) (j := 0) (by omega) (by omega)).mp q
      omega
    · have := (zo_le (k := 4) (j := t) (by omega) (by omega)).mp q
      omega
  unfold zf_Machine_place zb_Machine_place_10 zb_Machine_place_15
  exact zp_ite (fun _ => zp_ite (fun _ => A _ (Or.inr rfl)) fun _ => A _ (Or.inl rfl)) fun _ => zp_ite (fun _ => zp_ite (fun _ => A _ (Or.inr rfl)) fun _ => A _ (Or.inl rfl)) fun _ => zp_ite (fun _ => A _ (Or.inr rfl)) fun _ => A _ (Or.inl rfl)
theorem c_goTo {σ : zS} {t z S : Nat} (t4 : t < 4) (h5 : σ 5 t = Int32.ofNat S) (S24 : S ≤ 24) (hz : z ≤ S) : zp (zf_Machine_goTo σ (Int32.ofNat t) (Int32.ofNat z)) (fun r => (∀ q, q ≠ 40 → r q = σ q) ∧ (∀ i, i ≠ t + 1 → r 40 i = σ 40 i) ∧ ∃ k, (k = 511 ∨ k = 131583) ∧ r 40 (t + 1) = ((σ 40 (t + 1) &&& k) ||| (zJ_shl (Int32.ofNat z) 9)) ||| (zJ_shl (if z < S then 1 else 4) 14)) := by
  unfold zf_Machine_goTo zb_Machine_goTo_16 zb_Machine_goTo_21 zb_Machine_goTo_40 zb_Machine_goTo_49
  refine zp_ite (fun q => ?_) fun _ => zp_bind (zp_mono (p_X_lengthOf t4) fun r6 e6 => ?_)
  · have := (zo_lt (k := z) (j := 0) (by omega) (by omega)).mp q
    omega
  · rw [h5] at e6
    subst e6
    refine zp_ite (fun q => ?_) fun q => ?_
    · have lt := (zo_lt (k := z) (j := S) (by omega) (by omega)).mp q
      rw [if_pos lt]
      exact zp_ite (fun _ => zp_ite (fun _ => zp_bind (zp_mono (c_place t4) fun r h => zp_some h)) fun q => absurd rfl q) fun q => absurd rfl q
    · have e : z = S := by
        by_cases c : z < S
        · exact absurd ((zo_lt (k := z) (j := S) (by omega) (by omega)).mpr c) q
        · omega
      subst e
      rw [if_neg (Nat.lt_irrefl _)]
      refine zp_ite (fun q => absurd q (by decide)) fun _ => zp_bind (zp_mono (p_X_lengthOf t4) fun r5 e5 => ?_)
      rw [h5] at e5
      subst e5
      exact zp_ite (fun q => absurd q (by decide)) fun _ => zp_bind (zp_mono (c_place t4) fun r h => zp_some h)
theorem m_letGo {N t : Nat} {μ : zS} (t4 : t < 4) : zp (zf_M_letGo N μ (Int32.ofNat t)) (fun s => (∀ q, q ≠ 107 → s q = μ q) ∧ (∀ i, (i < 6 ∨ 14 ≤ i) → s 107 i = μ 107 i) ∧ ∀ l, l < 4 → (μ 107 (6 + l) = Int32.ofNat (t + 1) → s 107 (6 + l) = 0 ∧ s 107 (10 + l) = 0) ∧ (¬ μ 107 (6 + l) = Int32.ofNat (t + 1) → s 107 (6 + l) = μ 107 (6 + l) ∧ s 107 (10 + l) = μ 107 (10 + l))) := by
  have go : ∀ (n j : Nat) (ν : zS), j ≤ 4 → (∀ q, q ≠ 107 → ν q = μ q) → (∀ i, (i < 6 ∨ 14 ≤ i) → ν 107 i = μ 107 i) → (∀ l, l < 4 → (l < j → (μ 107 (6 + l) = Int32.ofNat (t + 1) → ν 107 (6 + l) = 0 ∧ ν 107 (10 + l) = 0) ∧ (¬ μ 107 (6 + l) = Int32.ofNat (t + 1) → ν 107 (6 + l) = μ 107 (6 + l) ∧ ν 107 (10 + l) = μ 107 (10 + l))) ∧ (j ≤ l → ν 107 (6 + l) = μ 107 (6 + l) ∧ ν 107 (10 + l) = μ 107 (10 + l))) → zp (zb_M_letGo_2 N n ν (Int32.ofNat t) (Int32.ofNat j)) (fun s => (∀ q, q ≠ 107 → s q = μ q) ∧ (∀ i, (i < 6 ∨ 14 ≤ i) → s 107 i = μ 107 i) ∧ ∀ l, l < 4 → (μ 107 (6 + l) = Int32.ofNat (t + 1) → s 107 (6 + l) = 0 ∧ s 107 (10 + l) = 0) ∧ (¬ μ 107 (6 + l) = Int32.ofNat (t + 1) → s 107 (6 + l) = μ 107 (6 + l) ∧ s 107 (10 + l) = μ 107 (10 + l))) := by
    intro n
    induction n with
    | zero => intro _ _ _ _ _ _; exact zp_none
    | succ n ih =>
      intro j ν j4 fr fi f
      rw [zb_M_letGo_2]
      unfold zb_M_letGo_42
      refine zp_ite (fun q => zp_some ⟨fr, fi, fun l hl => (f l hl).1 ?_⟩) fun q => ?_
      · have := (zo_le (k := 4) (j := j) (by omega) (by omega)).mp q
        omega
      · have lt : j < 4 := by
          by_cases c : j < 4
          · exact c
          · exact absurd ((zo_le (k := 4) (j := j) (by omega) (by omega)).mpr (by omega)) q
        have e6 : (6 : Int32) + Int32.ofNat j = Int32.ofNat (6 + j) := zo_plus (i := 6) rfl (by omega)
        have e10 : (10 : Int32) + Int32.ofNat j = Int32.ofNat (10 + j) := zo_plus (i := 10) rfl (by omega)
        have o := (f j lt).2 (Nat.le_refl _)
        rw [e6, e10, zo_n (m := 6 + j) (by omega), zo_n (m := 10 + j) (by omega), zo_1 (m := t) (by omega), zo_1 (m := j) (by omega), o.1]
        refine zp_chk fun _ => zp_ite (fun k => ih (j + 1) ν (by omega) fr fi fun l hl => ⟨fun c => ?_, fun c => (f l hl).2 (by omega)⟩) fun k => zp_chk fun _ => zp_chk fun _ => ih (j + 1) _ (by omega) (fun q hq => by rw [zu_other hq, zu_other hq]; exact fr q hq) (fun i hi => by rw [zx_up_same, zu_ne (by omega), zx_up_same, zu_ne (by omega)]; exact fi i hi) fun l hl => ⟨fun c => ?_, fun c => ?_⟩
        · by_cases d : l = j
          · rw [d]; exact ⟨fun e => absurd e k, fun _ => o⟩
          · exact (f l hl).1 (by omega)
        · by_cases d : l = j
          · rw [d, zx_up_same, zu_ne (by omega), zu_eq, zx_up_same, zu_eq]
            exact ⟨fun _ => ⟨rfl, rfl⟩, fun e => absurd (Classical.not_not.mp k) e⟩
          · rw [zx_up_same, zu_ne (by omega), zu_ne (by omega), zx_up_same, zu_ne (by omega), zu_ne (by omega)]
            exact (f l hl).1 (by omega)
        · rw [zx_up_same, zu_ne (by omega), zu_ne (by omega), zx_up_same, zu_ne (by omega), zu_ne (by omega)]
          exact (f l hl).2 (by omega)
  unfold zf_M_letGo
  exact go N 0 μ (by omega) (fun _ _ => rfl) (fun _ _ => rfl) fun l hl => ⟨fun c => absurd c (Nat.not_lt_zero _), fun _ => ⟨rfl, rfl⟩⟩
theorem p_goTo {N m t z : Nat} {len : Nat → Nat} {nc : Nat → Nat → Nat} {ρ μ σ : zS} {a : Nat → Nat} (pc : PC m len nc ρ μ) (mid : MID m len nc ρ t a (σ 40) (μ 107)) (l1 : ∀ q, 4 ≤ q → q ≤ 16 → σ q = ρ q) (ht : t < m) (hz : z ≤ len t) (ha : z < len t → EQ4 (nc (24 * t + z)) a) (h15 : z < len t → μ 107 (15 + 6 * t) = 1) : zp (zf_Machine_goTo σ (Int32.ofNat t) (Int32.ofNat z)) (fun r => (∀ q, q ≠ 40 → r q = σ q) ∧ zp (zf_M_goTo N μ (Int32.ofNat t) (Int32.ofNat z)) (fun s => (∀ q, q ≠ 107 → s q = μ q) ∧ ST m len nc ρ (r 40) (s 107))) := by
  obtain ⟨⟨m4, _, _⟩, p2, _⟩ := pc
  obtain ⟨l24, e5, e90⟩ := p2 t ht
  have t4 : t < 4 := by omega
  refine zp_mono (c_goTo t4 (S := len t) (by rw [l1 5 (by decide) (by decide)]; exact e5) l24 hz) fun r ⟨fr, fw, ft⟩ => ⟨fr, ?_⟩
  have z31 : (0 : Int32) ≤ Int32.ofNat z ∧ Int32.ofNat z ≤ 31 := ⟨(zo_le (k := 0) (j := z) (by omega) (by omega)).mpr (Nat.zero_le _), (zo_le (k := z) (j := 31) (by omega) (by omega)).mpr (by omega)⟩
  unfold zf_M_goTo zf_M_at
  rw [zo_at t4, zo_n (m := t) (by omega), e90]
  refine zp_bind (zp_some ?_)
  rw [zo_n (m := 14 + 6 * t) (by omega)]
  refine zp_chk fun _ => zp_chk fun _ => zp_ite (fun q => zp_some ⟨fun q hq => zu_other hq, ?_⟩) fun q => zp_bind (zp_some ?_)
  · have lt : z < len t := by
      by_cases c : z < len t
      · exact c
      · exact absurd (by rw [show z = len t by omega]) q
    rw [if_pos lt] at ft
    have x15 : (zx_up μ 107 (14 + 6 * t) (Int32.ofNat z)) 107 (15 + 6 * t) = 1 := by rw [zx_up_same, zu_ne (by omega)]; exact h15 lt
    have x14 : (zx_up μ 107 (14 + 6 * t) (Int32.ofNat z)) 107 (14 + 6 * t) = Int32.ofNat z := by rw [zx_up_same, zu_eq]
    exact mid.fin m4 ht (fun i hi ne => fw i ne) ft z31 (by decide) (by decide) x14 x15 (fun i hi _ b c => by rw [zx_up_same, zu_ne b]) (Or.inr (Or.inl ⟨Or.inl rfl, z, lt, rfl⟩)) fun l hl => Or.inl ⟨by rw [HN.run x15 x14 (by omega)]; exact ha lt l hl, by rw [zx_up_same, zu_ne (by omega)], by rw [zx_up_same, zu_ne (by omega)]⟩
  · rw [zo_1 (m := 14 + 6 * t) (by omega), zo_n (m := 14 + 6 * t + 1) (by omega)]
    refine zp_chk fun _ => zp_bind (zp_mono (m_letGo t4) fun s ⟨g1, g2, g3⟩ => zp_some ⟨fun q hq => by rw [g1 q hq, zu_other hq, zu_other hq], ?_⟩)
    have e : z = len t := zo_inj (by omega) (by omega) (Classical.not_not.mp q)
    rw [if_neg (by omega)] at ft
    have V : ∀ i, i ≠ 14 + 6 * t → i ≠ 15 + 6 * t → (zx_up (zx_up μ 107 (14 + 6 * t) (Int32.ofNat z)) 107 (14 + 6 * t + 1) 4) 107 i = μ 107 i := fun i a b => by rw [zx_up_same, zu_ne (by omega), zx_up_same, zu_ne a]
    have x15 : s 107 (15 + 6 * t) = 4 := by rw [g2 _ (by omega), zx_up_same, show 14 + 6 * t + 1 = 15 + 6 * t by omega, zu_eq]
    have x14 : s 107 (14 + 6 * t) = Int32.ofNat z := by rw [g2 _ (by omega), zx_up_same, zu_ne (by omega), zx_up_same, zu_eq]
    refine mid.fin m4 ht (fun i hi ne => fw i ne) ft z31 (by decide) (by decide) x14 x15 (fun i hi a b c => by rw [g2 i a, V i b c]) (Or.inr (Or.inr (Or.inr ⟨rfl, by rw [e]⟩))) fun l hl => Or.inr ⟨HN.no (by rw [x15]; decide), fun k => ?_, fun k => ?_⟩
    · exact (g3 l hl).1 (by rw [V _ (by omega) (by omega)]; exact k)
    · have := (g3 l hl).2 (by rw [V _ (by omega) (by omega)]; exact k)
      rw [V _ (by omega) (by omega), V _ (by omega) (by omega)] at this
      exact this
theorem p_fail5 {N m t z : Nat} {len : Nat → Nat} {nc : Nat → Nat → Nat} {ρ μ σ : zS} {a : Nat → Nat} (pc : PC m len nc ρ μ) (mid : MID m len nc ρ t a (σ 40) (μ 107)) (ht : t < m) (hz : z < len t) (e14 : μ 107 (14 + 6 * t) = Int32.ofNat z) : zp (zf_Machine_place σ (Int32.ofNat t) (Int32.ofNat z) 5) (fun r => (∀ q, q ≠ 40 → r q = σ q) ∧ zp (zf_M_failing N μ (Int32.ofNat t)) (fun s => (∀ q, q ≠ 107 → s q = μ q) ∧ ST m len nc ρ (r 40) (s 107))) := by
  obtain ⟨⟨m4, _, _⟩, p2, _⟩ := pc
  obtain ⟨l24, e5, e90⟩ := p2 t ht
  have t4 : t < 4 := by omega
  refine zp_mono (c_place t4) fun r ⟨fr, fw, ft⟩ => ⟨fr, ?_⟩
  have z31 : (0 : Int32) ≤ Int32.ofNat z ∧ Int32.ofNat z ≤ 31 := ⟨(zo_le (k := 0) (j := z) (by omega) (by omega)).mpr (Nat.zero_le _), (zo_le (k := z) (j := 31) (by omega) (by omega)).mpr (by omega)⟩
  unfold zf_M_failing zf_M_at
  rw [zo_at t4]
  refine zp_bind (zp_some ?_)
  rw [zo_1 (m := 14 + 6 * t) (by omega), zo_n (m := 14 + 6 * t + 1) (by omega)]
  refine zp_chk fun _ => zp_bind (zp_mono (m_letGo t4) fun s ⟨g1, g2, g3⟩ => zp_some ⟨fun q hq => by rw [g1 q hq, zu_other hq], ?_⟩)
  have V : ∀ i, i ≠ 15 + 6 * t → (zx_up μ 107 (14 + 6 * t + 1) 5) 107 i = μ 107 i := fun i a => by rw [zx_up_same, zu_ne (by omega)]
  have x15 : s 107 (15 + 6 * t) = 5 := by rw [g2 _ (by omega), zx_up_same, show 14 + 6 * t + 1 = 15 + 6 * t by omega, zu_eq]
  have x14 : s 107 (14 + 6 * t) = Int32.ofNat z := by rw [g2 _ (by omega), V _ (by omega)]; exact e14
  refine mid.fin m4 ht (fun i hi ne => fw i ne) ft z31 (by decide) (by decide) x14 x15 (fun i hi a b c => by rw [g2 i a, V i c]) (Or.inr (Or.inl ⟨Or.inr rfl, z, hz, rfl⟩)) fun l hl => Or.inr ⟨HN.no (by rw [x15]; decide), fun k => ?_, fun k => ?_⟩
  · exact (g3 l hl).1 (by rw [V _ (by omega)]; exact k)
  · have := (g3 l hl).2 (by rw [V _ (by omega)]; exact k)
    rw [V _ (by omega), V _ (by omega)] at this
    exact this
