-- both answer alike
set_option maxRecDepth 2000
theorem c_tailF {N t z' q S : Nat} {σ : zS} (t4 : t < 4) (q96 : q < 96) (n : ¬ (σ 36 t = 1 ∧ σ 7 q = 7)) (h5 : σ 5 t = Int32.ofNat S) (S24 : S ≤ 24) (hz : z' ≤ S) : zp (zb_Machine_move_261 N σ (Int32.ofNat t) (Int32.ofNat q) 1 (Int32.ofNat z')) (fun r => ∀ p, p ≠ 40 → r p = σ p) := c_tail t4 q96 n (zp_mono (c_goTo t4 h5 S24 hz) fun r h => h.1)
theorem d_wake8 {N N' m t z : Nat} {len : Nat → Nat} {nc : Nat → Nat → Nat} {ρ μ σ : zS} {w : Nat → Int32} (pc : PC m len nc ρ μ) (st : ST m len nc ρ w (μ 107)) (ld : LDD m ρ w (μ 107) σ) (ht : t < m) (zL : z < len t) (v : μ 107 (15 + 6 * t) = 1) (es : μ 107 (14 + 6 * t) = Int32.ofNat z) {σ1 : zS} (f1 : ∀ p, p ≠ 40 → σ1 p = σ p) (w1 : ∀ i, i < 5 → σ1 40 i = w i) {l : Nat} (k0 : μ 92 (24 * t + z) = 8) (l4 : l < 4) (e8 : ρ 8 (24 * t + z) = Int32.ofNat l) (e93 : μ 93 (24 * t + z) = Int32.ofNat l) : zp (zb_Machine_move_116 N σ1 (Int32.ofNat t) (Int32.ofNat (24 * t + z)) 1 (ρ 9 (24 * t + z)) 8) (fun r => (∀ p, p ≠ 40 → r p = σ1 p) ∧ zp (zb_M_doStep_139 N' μ (Int32.ofNat t) (Int32.ofNat (24 * t + z)) (μ 93 (24 * t + z)) (if μ 107 (6 + l) = Int32.ofNat (t + 1) then 1 else 0)) (fun s => (∀ p, p ≠ 107 → s p = μ p) ∧ ST m len nc ρ (r 40) (s 107))) := by
  have pc' := pc
  obtain ⟨⟨m4, p1, p1'⟩, p2, p3, p4, p5⟩ := pc
  have l24 := (p2 t ht).1
  have t4 : t < 4 := by omega
  obtain ⟨k92, ⟨z1, zl1, e9, _, _⟩, _⟩ := p4 t z ht zL
  have g : ∀ q, 4 ≤ q → q ≤ 16 → σ1 q = ρ q := fun q a b => (f1 q (by omega)).trans (ld.1 q a b)
  have tw : TWB (σ1 39 (t + 1)) (μ 107 (14 + 6 * t)) (μ 107 (15 + 6 * t)) (fun i => μ 107 (16 + 6 * t + i)) := by rw [f1 39 (by decide), ld.2.1 (t + 1) (by omega)]; exact st.2.1 t ht
  have mid := (st.mid ht v es (by omega)).of m4 ht (fun i hi => w1 i hi) (fun _ _ _ _ => rfl)
  have own : σ1 38 l = Int32.ofNat t ↔ μ 107 (6 + l) = Int32.ofNat (t + 1) := by rw [f1 38 (by decide)]; exact ld.me m4 ht l4
  have n7 : ∀ r : zS, (∀ p, p ≠ 40 → r p = σ1 p) → ¬ (r 36 t = 1 ∧ r 7 (24 * t + z) = 7) := fun r f => by rw [f 7 (by decide), g 7 (by decide) (by decide), k92, k0]; exact fun w => absurd w.2 (by decide)
  have ld1 : LDD m ρ w (μ 107) σ1 := ⟨g, by rw [f1 39 (by decide)]; exact ld.2.1, by rw [f1 36 (by decide), f1 37 (by decide)]; exact ld.2.2.1, by rw [f1 38 (by decide)]; exact ld.2.2.2⟩
  have ha : EQ4 (OUTN (ρ 7 (24 * t + z)) (ρ 8 (24 * t + z)) (nc (24 * t + z))) (nc (24 * t + z)) := OUTN.id (by rw [k92, k0]; decide)
  unfold zb_Machine_move_116
  refine zp_ite (fun q => absurd q (by decide)) fun _ => zp_ite (fun q => absurd q (by decide)) fun _ => zp_ite (fun q => absurd q (by decide)) fun _ => zp_ite (fun q => absurd q (by decide)) fun _ => zp_ite (fun q => absurd q (by decide)) fun _ => zp_ite (fun q => absurd q (by decide)) fun _ => zp_ite (fun q => absurd q (by decide)) fun _ => zp_ite (fun q => absurd q (by decide)) fun _ => zp_ite (fun _ => zp_bind (c_signal t4 (by omega) l4 (by rw [g 8 (by decide) (by decide)]; exact e8) (fun y => ?_) fun y => ?_)) fun q => absurd rfl q
  · have y' := own.mp y
    rw [g 7 (by decide) (by decide), k92, k0, if_neg (by decide)]
    refine zp_mono (p_wake (N' := N') (kd := 8) (al := 0) pc' st ld1 ht l4 v (by decide) N 0 σ1 μ 1 (by omega) (fun _ _ => rfl) (fun _ _ => rfl) mid (fun _ _ => rfl) v) fun r hr => ?_
    obtain ⟨r1, fr, wk⟩ := hr
    rw [r1]
    intro r' e'
    refine ⟨fun p hp => ?_, ?_⟩
    · rw [e9] at e'
      exact (c_tailF (N := N) t4 (by omega) (n7 r.2 fr) (by rw [fr 5 (by decide), g 5 (by decide) (by decide)]; exact (p2 t ht).2.1) l24 zl1 r' e' p hp).trans (fr p hp)
    · rw [if_pos y']
      unfold zb_M_doStep_139 zb_M_doStep_563 zf_M_wake
      rw [zo_n (m := 24 * t + z) (by omega), k0, e93]
      refine zp_chk fun _ => zp_ite (fun q => absurd q (by decide)) fun _ => zp_ite (fun q => absurd q (by decide)) fun _ => zp_ite (fun q => absurd q (by decide)) fun _ => zp_ite (fun q => absurd q (by decide)) fun _ => zp_ite (fun q => absurd q (by decide)) fun _ => zp_ite (fun q => absurd q (by decide)) fun _ => zp_ite (fun q => absurd q (by decide)) fun _ => zp_ite (fun q => absurd q (by decide)) fun _ => zp_ite (fun _ => zp_ite (fun _ => zp_chk fun _ => zp_ite (fun _ => zp_bind (zp_mono (wk N') fun s hs => ?_)) fun q => absurd (by decide) q) fun q => absurd (by decide) q) fun q => absurd rfl q
      have T := p_tail (N := N) (N' := N') (pc'.f hs.1) hs.2.1 (fun q a b => (fr q (by omega)).trans (g q a b)) ht zL (n7 r.2 fr) ha hs.2.2 r' e'
      exact zp_mono T.2 fun s' h' => ⟨fun p hp => (h'.1 p hp).trans (hs.1 p hp), h'.2⟩
  · have y' : ¬ μ 107 (6 + l) = Int32.ofNat (t + 1) := fun q => y (own.mpr q)
    dsimp only
    refine c_failS t4 tw ?_
    rw [es]
    refine zp_mono (p_fail5 (N := N') pc' mid ht zL es) fun r' h' => ⟨h'.1, ?_⟩
    rw [if_neg y']
    unfold zb_M_doStep_139
    rw [zo_n (m := 24 * t + z) (by omega), k0]
    exact zp_chk fun _ => zp_ite (fun q => absurd q (by decide)) fun _ => zp_ite (fun q => absurd q (by decide)) fun _ => zp_ite (fun q => absurd q (by decide)) fun _ => zp_ite (fun q => absurd q (by decide)) fun _ => zp_ite (fun q => absurd q (by decide)) fun _ => zp_ite (fun q => absurd q (by decide)) fun _ => zp_ite (fun q => absurd q (by decide)) fun _ => zp_ite (fun q => absurd q (by decide)) fun _ => zp_ite (fun _ => zp_ite (fun q => absurd rfl q) fun _ => zp_bind (zp_mono h'.2 fun s hs => zp_some hs)) fun q => absurd rfl q
theorem d_wake9 {N N' m t z : Nat} {len : Nat → Nat} {nc : Nat → Nat → Nat} {ρ μ σ : zS} {w : Nat → Int32} (pc : PC m len nc ρ μ) (st : ST m len nc ρ w (μ 107)) (ld : LDD m ρ w (μ 107) σ) (ht : t < m) (zL : z < len t) (v : μ 107 (15 + 6 * t) = 1) (es : μ 107 (14 + 6 * t) = Int32.ofNat z) {σ1 : zS} (f1 : ∀ p, p ≠ 40 → σ1 p = σ p) (w1 : ∀ i, i < 5 → σ1 40 i = w i) {l : Nat} (k0 : μ 92 (24 * t + z) = 9) (l4 : l < 4) (e8 : ρ 8 (24 * t + z) = Int32.ofNat l) (e93 : μ 93 (24 * t + z) = Int32.ofNat l) : zp (zb_Machine_move_116 N σ1 (Int32.ofNat t) (Int32.ofNat (24 * t + z)) 1 (ρ 9 (24 * t + z)) 9) (fun r => (∀ p, p ≠ 40 → r p = σ1 p) ∧ zp (zb_M_doStep_139 N' μ (Int32.ofNat t) (Int32.ofNat (24 * t + z)) (μ 93 (24 * t + z)) (if μ 107 (6 + l) = Int32.ofNat (t + 1) then 1 else 0)) (fun s => (∀ p, p ≠ 107 → s p = μ p) ∧ ST m len nc ρ (r 40) (s 107))) := by
  have pc' := pc
  obtain ⟨⟨m4, p1, p1'⟩, p2, p3, p4, p5⟩ := pc
  have l24 := (p2 t ht).1
  have t4 : t < 4 := by omega
  obtain ⟨k92, ⟨z1, zl1, e9, _, _⟩, _⟩ := p4 t z ht zL
  have g : ∀ q, 4 ≤ q → q ≤ 16 → σ1 q = ρ q := fun q a b => (f1 q (by omega)).trans (ld.1 q a b)
  have tw : TWB (σ1 39 (t + 1)) (μ 107 (14 + 6 * t)) (μ 107 (15 + 6 * t)) (fun i => μ 107 (16 + 6 * t + i)) := by rw [f1 39 (by decide), ld.2.1 (t + 1) (by omega)]; exact st.2.1 t ht
  have mid := (st.mid ht v es (by omega)).of m4 ht (fun i hi => w1 i hi) (fun _ _ _ _ => rfl)
  have own : σ1 38 l = Int32.ofNat t ↔ μ 107 (6 + l) = Int32.ofNat (t + 1) := by rw [f1 38 (by decide)]; exact ld.me m4 ht l4
  have n7 : ∀ r : zS, (∀ p, p ≠ 40 → r p = σ1 p) → ¬ (r 36 t = 1 ∧ r 7 (24 * t + z) = 7) := fun r f => by rw [f 7 (by decide), g 7 (by decide) (by decide), k92, k0]; exact fun w => absurd w.2 (by decide)
  have ld1 : LDD m ρ w (μ 107) σ1 := ⟨g, by rw [f1 39 (by decide)]; exact ld.2.1, by rw [f1 36 (by decide), f1 37 (by decide)]; exact ld.2.2.1, by rw [f1 38 (by decide)]; exact ld.2.2.2⟩
  have ha : EQ4 (OUTN (ρ 7 (24 * t + z)) (ρ 8 (24 * t + z)) (nc (24 * t + z))) (nc (24 * t + z)) := OUTN.id (by rw [k92, k0]; decide)
  unfold zb_Machine_move_116
  refine zp_ite (fun q => absurd q (by decide)) fun _ => zp_ite (fun q => absurd q (by decide)) fun _ => zp_ite (fun q => absurd q (by decide)) fun _ => zp_ite (fun q => absurd q (by decide)) fun _ => zp_ite (fun q => absurd q (by decide)) fun _ => zp_ite (fun q => absurd q (by decide)) fun _ => zp_ite (fun q => absurd q (by decide)) fun _ => zp_ite (fun q => absurd q (by decide)) fun _ => zp_ite (fun q => absurd q (by decide)) fun _ => zp_ite (fun _ => zp_bind (c_signal t4 (by omega) l4 (by rw [g 8 (by decide) (by decide)]; exact e8) (fun y => ?_) fun y => ?_)) fun q => absurd rfl q
  · have y' := own.mp y
    rw [g 7 (by decide) (by decide), k92, k0, if_neg (by decide)]
    refine zp_mono (p_wake (N' := N') (kd := 9) (al := 1) pc' st ld1 ht l4 v (by decide) N 0 σ1 μ 1 (by omega) (fun _ _ => rfl) (fun _ _ => rfl) mid (fun _ _ => rfl) v) fun r hr => ?_
    obtain ⟨r1, fr, wk⟩ := hr
    rw [r1]
    intro r' e'
    refine ⟨fun p hp => ?_, ?_⟩
    · rw [e9] at e'
      exact (c_tailF (N := N) t4 (by omega) (n7 r.2 fr) (by rw [fr 5 (by decide), g 5 (by decide) (by decide)]; exact (p2 t ht).2.1) l24 zl1 r' e' p hp).trans (fr p hp)
    · rw [if_pos y']
      unfold zb_M_doStep_139 zb_M_doStep_563 zf_M_wake
      rw [zo_n (m := 24 * t + z) (by omega), k0, e93]
      refine zp_chk fun _ => zp_ite (fun q => absurd q (by decide)) fun _ => zp_ite (fun q => absurd q (by decide)) fun _ => zp_ite (fun q => absurd q (by decide)) fun _ => zp_ite (fun q => absurd q (by decide)) fun _ => zp_ite (fun q => absurd q (by decide)) fun _ => zp_ite (fun q => absurd q (by decide)) fun _ => zp_ite (fun q => absurd q (by decide)) fun _ => zp_ite (fun q => absurd q (by decide)) fun _ => zp_ite (fun q => absurd q (by decide)) fun _ => zp_ite (fun _ => zp_ite (fun _ => zp_chk fun _ => zp_ite (fun q => absurd rfl q) fun _ => zp_bind (zp_mono (wk N') fun s hs => ?_)) fun q => absurd (by decide) q) fun q => absurd rfl q
      have T := p_tail (N := N) (N' := N') (pc'.f hs.1) hs.2.1 (fun q a b => (fr q (by omega)).trans (g q a b)) ht zL (n7 r.2 fr) ha hs.2.2 r' e'
      exact zp_mono T.2 fun s' h' => ⟨fun p hp => (h'.1 p hp).trans (hs.1 p hp), h'.2⟩
  · have y' : ¬ μ 107 (6 + l) = Int32.ofNat (t + 1) := fun q => y (own.mpr q)
    dsimp only
    refine c_failS t4 tw ?_
    rw [es]
    refine zp_mono (p_fail5 (N := N') pc' mid ht zL es) fun r' h' => ⟨h'.1, ?_⟩
    rw [if_neg y']
    unfold zb_M_doStep_139
    rw [zo_n (m := 24 * t + z) (by omega), k0]
    exact zp_chk fun _ => zp_ite (fun q => absurd q (by decide)) fun _ => zp_ite (fun q => absurd q (by decide)) fun _ => zp_ite (fun q => absurd q (by decide)) fun _ => zp_ite (fun q => absurd q (by decide)) fun _ => zp_ite (fun q => absurd q (by decide)) fun _ => zp_ite (fun q => absurd q (by decide)) fun _ => zp_ite (fun q => absurd q (by decide)) fun _ => zp_ite (fun q => absurd q (by decide)) fun _ => zp_ite (fun q => absurd q (by decide)) fun _ => zp_ite (fun _ => zp_ite (fun q => absurd rfl q) fun _ => zp_bind (zp_mono h'.2 fun s hs => zp_some hs)) fun q => absurd rfl q
theorem MID.start {m t u : Nat} {len : Nat → Nat} {nc : Nat → Nat → Nat} {ρ : zS} {a : Nat → Nat} {w w' x x' : Nat → Int32} {h' : Int32} (m4 : m ≤ 4) (ht : t < m) (hu : u < m) (ne : u ≠ t) (nr : NSR u (len u) ρ nc) (h : MID m len nc ρ t a w x) (h0 : x (15 + 6 * u) = 0) (hh : h' = if 0 < len u then 1 else 4) (ew : ∀ i, i < 5 → i ≠ u + 1 → w' i = w i) (et : ∃ k, (k = 511 ∨ k = 131583) ∧ w' (u + 1) = ((w (u + 1) &&& k) ||| (zJ_shl (Int32.ofNat 0) 9)) ||| (zJ_shl h' 14)) (e14 : x' (14 + 6 * u) = 0) (e15 : x' (15 + 6 * u) = h') (e : ∀ i, i < 40 → i ≠ 14 + 6 * u → i ≠ 15 + 6 * u → x' i = x i) : MID m len nc ρ t a w' x' := by
  obtain ⟨a1, ⟨a2, s, h2, a2'⟩, a3, a4, ⟨a5, a5'⟩, a6, a7⟩ := h
  have h7 : 0 ≤ h' ∧ h' ≤ 7 := by
    rw [hh]
    by_cases c : 0 < len u
    · rw [if_pos c]; decide
    · rw [if_neg c]; decide
  have n23 : ¬ (h' = 2 ∨ h' = 3) := by
    rw [hh]
    by_cases c : 0 < len u
    · rw [if_pos c]; decide
    · rw [if_neg c]; decide
  have hn : ∀ v l, v < m → l < 4 → HN ρ nc x' v l = HN ρ nc x v l := fun v l hv hl => by
    by_cases c : v = u
    · subst c
      rw [HN.no (x := x) (by rw [h0]; decide)]
      by_cases d : 0 < len v
      · rw [if_pos d] at hh
        rw [HN.run (z := 0) (by rw [e15, hh]) (by rw [e14]; rfl) (by omega), Nat.add_zero]
        exact nr.2.1 d l hl
      · rw [if_neg d] at hh
        exact HN.no (by rw [e15, hh]; decide)
    · exact HN.congr (e _ (by omega) (by omega) (by omega)) (e _ (by omega) (by omega) (by omega))
  refine ⟨?_, ⟨fun v hv nv => ?_, s, h2, ?_⟩, fun v hv h4 => ?_, fun v hv nv => ?_, ⟨fun v hv nv => ?_, by rw [e _ (by omega) (by omega) (by omega)]; exact a5'⟩, fun l hl => (a6 l hl).congr (fun v hv => ?_) (e _ (by omega) (by omega) (by omega)) (e _ (by omega) (by omega) (by omega)), ?_⟩
  · rw [ew 0 (by omega) (by omega)]
    exact a1.of fun f hf => e f (by omega) (by omega) (by omega)
  · by_cases c : v = u
    · subst c
      obtain ⟨k, hk, e'⟩ := et
      rw [e', e14, e15]
      exact ((a2 v hv nv).plc hk (s' := Int32.ofNat 0) (by decide) h7).of rfl rfl fun i hi => e _ (by omega) (by omega) (by omega)
    · rw [ew (v + 1) (by omega) (by omega)]
      exact (a2 v hv nv).of (e _ (by omega) (by omega) (by omega)) (e _ (by omega) (by omega) (by omega)) fun i hi => e _ (by omega) (by omega) (by omega)
  · rw [ew (t + 1) (by omega) (by omega)]
    exact a2'.of rfl rfl fun i hi => e _ (by omega) (by omega) (by omega)
  · rw [ew (v + 1) (by omega) (by omega)]
    exact ⟨(a3 v hv h4).1, fun i hi => by rw [e _ (by omega) (by omega) (by omega)]; exact (a3 v hv h4).2 i hi⟩
  · by_cases c : v = u
    · subst c
      rw [e14, e15, hh]
      by_cases d : 0 < len v
      · rw [if_pos d]; exact Or.inr (Or.inl ⟨Or.inl rfl, 0, d, rfl⟩)
      · rw [if_neg d]; exact Or.inr (Or.inr (Or.inr ⟨rfl, by rw [show len v = 0 by omega]; rfl⟩))
    · rw [e _ (by omega) (by omega) (by omega), e (15 + 6 * v) (by omega) (by omega) (by omega)]; exact a4 v hv nv
  · by_cases c : v = u
    · subst c
      refine ⟨fun q => ?_, fun _ => ?_⟩
      · rw [e15] at q
        exact absurd q n23
      · rw [e (19 + 6 * v) (by omega) (by omega) (by omega)]
        exact (a5 v hv nv).2 (by rw [h0]; decide)
    · unfold SVD
      rw [e (15 + 6 * v) (by omega) (by omega) (by omega), e (14 + 6 * v) (by omega) (by omega) (by omega), e (19 + 6 * v) (by omega) (by omega) (by omega)]
      exact a5 v hv nv
  · by_cases c : v = t
    · rw [c, HNA.at, HNA.at]
    · rw [HNA.ne c, HNA.ne c]; exact hn v l hv hl
  · rw [e 38 (by omega) (by omega) (by omega), e 39 (by omega) (by omega) (by omega)]; exact a7
theorem p_start {N' m t u : Nat} {len : Nat → Nat} {nc : Nat → Nat → Nat} {ρ μ σ : zS} {a : Nat → Nat} (pc : PC m len nc ρ μ) (mid : MID m len nc ρ t a (σ 40) (μ 107)) (l1 : ∀ q, 4 ≤ q → q ≤ 16 → σ q = ρ q) (ht : t < m) (hu : u < m) (ne : u ≠ t) (h0 : μ 107 (15 + 6 * u) = 0) : zp (zf_Machine_goTo σ (Int32.ofNat u) 0) (fun r => (∀ q, q ≠ 40 → r q = σ q) ∧ zp (zf_M_begin N' μ (Int32.ofNat u)) (fun s => (∀ q, q ≠ 107 → s q = μ q) ∧ MID m len nc ρ t a (r 40) (s 107) ∧ s 107 (15 + 6 * t) = μ 107 (15 + 6 * t))) := by
  obtain ⟨⟨m4, _, _⟩, p2, _, _, p5⟩ := pc
  obtain ⟨l24, e5, e90⟩ := p2 u hu
  have u4 : u < 4 := by omega
  have s0 : μ 107 (14 + 6 * u) = 0 := by
    rcases mid.2.2.2.1 u hu ne with k | k | k | k
    · exact k.2
    · rcases k.1 with k | k <;> rw [k] at h0 <;> exact absurd h0 (by decide)
    · rcases k.1 with k | k <;> rw [k] at h0 <;> exact absurd h0 (by decide)
    · rw [k.1] at h0; exact absurd h0 (by decide)
  refine zp_mono (c_goTo (z := 0) u4 (S := len u) (by rw [l1 5 (by decide) (by decide)]; exact e5) l24 (by omega)) fun r ⟨fr, fw, ft⟩ => ⟨fr, ?_⟩
  unfold zf_M_begin zf_M_goTo zf_M_at
  rw [zo_at u4]
  refine zp_bind (zp_some ?_)
  rw [zo_1 (m := 14 + 6 * u) (by omega), zo_n (m := 14 + 6 * u + 1) (by omega), show 14 + 6 * u + 1 = 15 + 6 * u by omega]
  refine zp_chk fun _ => zp_bind (zp_bind (zp_some ?_))
  rw [zo_n (m := 14 + 6 * u) (by omega), zo_n (m := u) (by omega), zu_other (by decide), e90]
  refine zp_chk fun _ => zp_chk fun _ => zp_ite (fun q => zp_some (zp_some ⟨fun q hq => by rw [zu_other hq, zu_other hq], ?_, ?_⟩)) fun q => zp_bind (zp_some ?_)
  · have lt : 0 < len u := by
      by_cases c : 0 < len u
      · exact c
      · exact absurd (by rw [show len u = 0 by omega]; rfl) q
    exact mid.start m4 ht hu ne (p5 u hu) h0 (h' := 1) (by rw [if_pos lt]) (fun i hi n => fw i n) (by rw [if_pos lt] at ft; exact ft) (by rw [zx_up_same, zu_eq]) (by rw [zx_up_same, zu_ne (by omega), zx_up_same, zu_eq]) (fun i hi b1 b2 => by rw [zx_up_same, zu_ne b1, zx_up_same, zu_ne b2])
  · rw [zx_up_same, zu_ne (by omega), zx_up_same, zu_ne (by omega)]
  · have z0 : len u = 0 := by
      have := zo_inj (k := 0) (j := len u) (by omega) (by omega) (Classical.not_not.mp q)
      omega
    rw [zo_1 (m := 14 + 6 * u) (by omega), zo_n (m := 14 + 6 * u + 1) (by omega), show 14 + 6 * u + 1 = 15 + 6 * u by omega]
    refine zp_chk fun _ => zp_bind (zp_mono (m_letGo u4) fun s ⟨g1, g2, g3⟩ => zp_some (zp_some ?_))
    have V : ∀ i, i ≠ 14 + 6 * u → i ≠ 15 + 6 * u → (zx_up (zx_up (zx_up μ 107 (15 + 6 * u) 1) 107 (14 + 6 * u) 0) 107 (15 + 6 * u) 4) 107 i = μ 107 i := fun i b1 b2 => by rw [zx_up_same, zu_ne b2, zx_up_same, zu_ne b1, zx_up_same, zu_ne b2]
    have nl : ∀ l, l < 4 → ¬ μ 107 (6 + l) = Int32.ofNat (u + 1) := fun l hl q => by
      rcases mid.2.2.2.2.2.1 l hl with ⟨_, b2, _⟩ | ⟨v, hv, b1, _, b3, _⟩
      · have := zo_inj (k := 0) (j := u + 1) (by omega) (by omega) (b2.symm.trans q)
        omega
      · have vu : v = u := by
          have := zo_inj (k := v + 1) (j := u + 1) (by omega) (by omega) (b3.symm.trans q)
          omega
        rw [vu, HNA.ne ne, HN.no (by rw [h0]; decide)] at b1
        omega
    have S : ∀ i, i < 40 → i ≠ 14 + 6 * u → i ≠ 15 + 6 * u → s 107 i = μ 107 i := fun i hi b1 b2 => by
      by_cases c : i < 6 ∨ 14 ≤ i
      · rw [g2 i c, V i b1 b2]
      · by_cases d : i < 10
        · have := (g3 (i - 6) (by omega)).2 (by rw [V _ (by omega) (by omega)]; exact nl _ (by omega))
          rw [show 6 + (i - 6) = i by omega, V i b1 b2] at this
          exact this.1
        · have := (g3 (i - 10) (by omega)).2 (by rw [V _ (by omega) (by omega)]; exact nl _ (by omega))
          rw [show 10 + (i - 10) = i by omega, V i b1 b2] at this
          exact this.2
    refine ⟨fun q hq => by rw [g1 q hq, zu_other hq, zu_other hq, zu_other hq], ?_, S _ (by omega) (by omega) (by omega)⟩
    exact mid.start m4 ht hu ne (p5 u hu) h0 (h' := 4) (by rw [if_neg (by omega)]) (fun i hi n => fw i n) (by rw [if_neg (by omega)] at ft; exact ft) (by rw [g2 _ (by omega), zx_up_same, zu_ne (by omega), zx_up_same, zu_eq]) (by rw [g2 _ (by omega), zx_up_same, zu_eq]) S
theorem d_start {N N' m t z : Nat} {len : Nat → Nat} {nc : Nat → Nat → Nat} {ρ μ σ : zS} {w : Nat → Int32} (pc : PC m len nc ρ μ) (st : ST m len nc ρ w (μ 107)) (ld : LDD m ρ w (μ 107) σ) (ht : t < m) (zL : z < len t) (v : μ 107 (15 + 6 * t) = 1) (es : μ 107 (14 + 6 * t) = Int32.ofNat z) {σ1 : zS} (f1 : ∀ p, p ≠ 40 → σ1 p = σ p) (w1 : ∀ i, i < 5 → σ1 40 i = w i) (k0 : μ 92 (24 * t + z) = 10) : zp (zb_Machine_move_116 N σ1 (Int32.ofNat t) (Int32.ofNat (24 * t + z)) 1 (ρ 9 (24 * t + z)) 10) (fun r => (∀ p, p ≠ 40 → r p = σ1 p) ∧ zp (zb_M_doStep_139 N' μ (Int32.ofNat t) (Int32.ofNat (24 * t + z)) (μ 93 (24 * t + z)) 0) (fun s => (∀ p, p ≠ 107 → s p = μ p) ∧ ST m len nc ρ (r 40) (s 107))) := by
  have pc' := pc
  obtain ⟨⟨m4, p1, p1'⟩, p2, p3, p4, p5⟩ := pc
  have l24 := (p2 t ht).1
  have t4 : t < 4 := by omega
  obtain ⟨k92, ⟨z1, zl1, e9, _, _⟩, _, _, nm, _, _⟩ := p4 t z ht zL
  obtain ⟨u, u4, e8, e93, um⟩ := nm (by rw [k0]; decide)
  have um := um (Or.inl k0)
  have g : ∀ q, 4 ≤ q → q ≤ 16 → σ1 q = ρ q := fun q a b => (f1 q (by omega)).trans (ld.1 q a b)
  have tw : TWB (σ1 39 (t + 1)) (μ 107 (14 + 6 * t)) (μ 107 (15 + 6 * t)) (fun i => μ 107 (16 + 6 * t + i)) := by rw [f1 39 (by decide), ld.2.1 (t + 1) (by omega)]; exact st.2.1 t ht
  have mid := (st.mid ht v es (by omega)).of m4 ht (fun i hi => w1 i hi) (fun _ _ _ _ => rfl)
  have n7 : ∀ r : zS, (∀ p, p ≠ 40 → r p = σ1 p) → ¬ (r 36 t = 1 ∧ r 7 (24 * t + z) = 7) := fun r f => by rw [f 7 (by decide), g 7 (by decide) (by decide), k92, k0]; exact fun w => absurd w.2 (by decide)
  have ha : EQ4 (OUTN (ρ 7 (24 * t + z)) (ρ 8 (24 * t + z)) (nc (24 * t + z))) (nc (24 * t + z)) := OUTN.id (by rw [k92, k0]; decide)
  have ref : ∀ {Q : zS → Prop}, zp (if (μ 107 (15 + 6 * u)) = 0 then (zf_M_begin N' μ (Int32.ofNat u)).bind fun r33 => zb_M_doStep_618 N' r33 (Int32.ofNat t) (Int32.ofNat (24 * t + z)) else (zf_M_failing N' μ (Int32.ofNat t)).bind fun r => some r) Q → zp (zb_M_doStep_139 N' μ (Int32.ofNat t) (Int32.ofNat (24 * t + z)) (μ 93 (24 * t + z)) 0) Q := by
    intro Q h
    unfold zb_M_doStep_139
    rw [zo_n (m := 24 * t + z) (by omega), k0, e93]
    refine zp_chk fun _ => zp_ite (fun q => absurd q (by decide)) fun _ => zp_ite (fun q => absurd q (by decide)) fun _ => zp_ite (fun q => absurd q (by decide)) fun _ => zp_ite (fun q => absurd q (by decide)) fun _ => zp_ite (fun q => absurd q (by decide)) fun _ => zp_ite (fun q => absurd q (by decide)) fun _ => zp_ite (fun q => absurd q (by decide)) fun _ => zp_ite (fun q => absurd q (by decide)) fun _ => zp_ite (fun q => absurd q (by decide)) fun _ => zp_ite (fun q => absurd q (by decide)) fun _ => zp_ite (fun _ => zp_bind (zp_mono (m_stateOf u4) fun r31 e31 => ?_)) fun q => absurd rfl q
    subst e31
    by_cases c : (μ 107 (15 + 6 * u)) = 0
    · rw [if_pos c] at h
      exact zp_ite (fun _ => h) fun q => absurd c q
    · rw [if_neg c] at h
      exact zp_ite (fun q => absurd q c) fun _ => h
  unfold zb_Machine_move_116 zf_Machine_startThread
  rw [zo_n (m := 24 * t + z) (by omega), g 8 (by decide) (by decide), e8]
  refine zp_ite (fun q => absurd q (by decide)) fun _ => zp_ite (fun q => absurd q (by decide)) fun _ => zp_ite (fun q => absurd q (by decide)) fun _ => zp_ite (fun q => absurd q (by decide)) fun _ => zp_ite (fun q => absurd q (by decide)) fun _ => zp_ite (fun q => absurd q (by decide)) fun _ => zp_ite (fun q => absurd q (by decide)) fun _ => zp_ite (fun q => absurd q (by decide)) fun _ => zp_ite (fun q => absurd q (by decide)) fun _ => zp_ite (fun q => absurd q (by decide)) fun _ => zp_ite (fun _ => zp_chk fun _ => zp_bind (zp_bind (zp_mono (c_howOf u4) fun r1 e1 => ?_))) fun q => absurd rfl q
  rw [f1 36 (by decide), (ld.2.2.1 u um).1] at e1
  subst e1
  refine zp_ite (fun c => zp_bind ?_) fun c => zp_some ?_
  · have ne : u ≠ t := fun e => by
      rw [e, v] at c
      exact absurd c (by decide)
    refine zp_mono (p_start (N' := N') pc' mid g ht um ne c) fun r3 h3 => zp_some fun r' e' => ?_
    dsimp only at e'
    refine ⟨fun p hp => ?_, ref ?_⟩
    · rw [e9] at e'
      exact (c_tailF (N := N) t4 (by omega) (n7 r3 h3.1) (by rw [h3.1 5 (by decide), g 5 (by decide) (by decide)]; exact (p2 t ht).2.1) l24 zl1 r' e' p hp).trans (h3.1 p hp)
    · rw [if_pos c]
      refine zp_bind (zp_mono h3.2 fun s hs => ?_)
      have T := p_tail (N := N) (N' := N') (pc'.f hs.1) hs.2.1 (fun q a b => (h3.1 q (by omega)).trans (g q a b)) ht zL (n7 r3 h3.1) ha (hs.2.2.trans v) r' e'
      exact zp_mono T.2 fun s' h' => ⟨fun p hp => (h'.1 p hp).trans (hs.1 p hp), h'.2⟩
  · dsimp only
    refine c_failS t4 tw ?_
    rw [es]
    refine zp_mono (p_fail5 (N := N') pc' mid ht zL es) fun r' h' => ⟨h'.1, ref ?_⟩
    rw [if_neg c]
    exact zp_bind (zp_mono h'.2 fun s hs => zp_some hs)
theorem d_woken {N N' m t z l : Nat} {len : Nat → Nat} {nc : Nat → Nat → Nat} {ρ μ σ : zS} {w : Nat → Int32} (pc : PC m len nc ρ μ) (st : ST m len nc ρ w (μ 107)) (ld : LDD m ρ w (μ 107) σ) (ht : t < m) (zL : z < len t) (v : μ 107 (15 + 6 * t) = 3) (es : μ 107 (14 + 6 * t) = Int32.ofNat z) (k7 : ρ 7 (24 * t + z) = 7) (l4 : l < 4) (e8 : ρ 8 (24 * t + z) = Int32.ofNat l) (pos : 0 < nc (24 * t + z) l) (fr : μ 107 (6 + l) = 0) {σ1 : zS} (f1 : ∀ p, p ≠ 40 → σ1 p = σ p) (w1 : ∀ i, i < 5 → σ1 40 i = w i) : zp (zb_Machine_move_116 N σ1 (Int32.ofNat t) (Int32.ofNat (24 * t + z)) 1 (ρ 9 (24 * t + z)) (-1)) (fun r => (∀ p, p ≠ 40 → r p = σ1 p) ∧ zp (zf_M_doStep N' μ (Int32.ofNat t)) (fun s => (∀ p, p ≠ 107 → s p = μ p) ∧ ST m len nc ρ (r 40) (s 107))) := by
  have pc' := pc
  obtain ⟨⟨m4, p1, p1'⟩, p2, p3, p4, p5⟩ := pc
  have l24 := (p2 t ht).1
  have t4 : t < 4 := by omega
  obtain ⟨k92, ⟨z1, zl1, e9, e94, _⟩, _, _, nm, _, _⟩ := p4 t z ht zL
  obtain ⟨l', _, e8', e93', _⟩ := nm (by rw [← k92, k7]; decide)
  have e93 : μ 93 (24 * t + z) = Int32.ofNat l := by rw [e93', ← e8', e8]
  have g : ∀ q, 4 ≤ q → q ≤ 16 → σ1 q = ρ q := fun q a b => (f1 q (by omega)).trans (ld.1 q a b)
  have e6 : (6 : Int32) + Int32.ofNat l = Int32.ofNat (6 + l) := zo_plus (i := 6) rfl (by omega)
  have e10 : (10 : Int32) + Int32.ofNat l = Int32.ofNat (10 + l) := zo_plus (i := 10) rfl (by omega)
  have a5 : Int32.ofNat (14 + 6 * t) + 5 = Int32.ofNat (19 + 6 * t) := by
    rw [show 19 + 6 * t = 14 + 6 * t + 5 by omega]
    exact zo_plus (i := 14 + 6 * t) (j := 5) rfl (by omega)
  have svd := (st.2.2.2.2.1 t ht).1 (Or.inr v) z l (by omega) es l4 e8
  generalize hX : (zx_up (zx_up (zx_up (zx_up μ 107 (6 + l) (Int32.ofNat (t + 1))) 107 (10 + l) (μ 107 (19 + 6 * t))) 107 (19 + 6 * t) 0) 107 (15 + 6 * t) 1) = X
  have Xq : ∀ p, p ≠ 107 → X p = μ p := fun p hp => by rw [← hX, zu_other hp, zu_other hp, zu_other hp, zu_other hp]
  have Xe : ∀ i, i ≠ 6 + l → i ≠ 10 + l → i ≠ 19 + 6 * t → i ≠ 15 + 6 * t → X 107 i = μ 107 i := fun i b1 b2 b3 b4 => by rw [← hX, zx_up_same, zu_ne b4, zx_up_same, zu_ne b3, zx_up_same, zu_ne b2, zx_up_same, zu_ne b1]
  have X15 : X 107 (15 + 6 * t) = 1 := by rw [← hX, zx_up_same, zu_eq]
  have X19 : X 107 (19 + 6 * t) = 0 := by rw [← hX, zx_up_same, zu_ne (by omega), zx_up_same, zu_eq]
  have X10 : X 107 (10 + l) = Int32.ofNat (nc (24 * t + z) l) := by rw [← hX, zx_up_same, zu_ne (by omega), zx_up_same, zu_ne (by omega), zx_up_same, zu_eq]; exact svd
  have X6 : X 107 (6 + l) = Int32.ofNat (t + 1) := by rw [← hX, zx_up_same, zu_ne (by omega), zx_up_same, zu_ne (by omega), zx_up_same, zu_ne (by omega), zx_up_same, zu_eq]
  have hu' : ∀ u j, u < m → u ≠ t → HN ρ nc (X 107) u j = HN ρ nc (μ 107) u j := fun u j hu ne => HN.congr (Xe _ (by omega) (by omega) (by omega) (by omega)) (Xe _ (by omega) (by omega) (by omega) (by omega))
  have hn : ∀ j, HN ρ nc (μ 107) t j = if ρ 8 (24 * t + z) = Int32.ofNat j then 0 else nc (24 * t + z) j := fun j => HN.wait (Or.inr v) es (by omega)
  have mid : MID m len nc ρ t (nc (24 * t + z)) (σ1 40) (X 107) := by
    obtain ⟨a1, a2, a3, a4, a5', a6, a7⟩ := st
    refine ⟨?_, ⟨fun u hu ne => ?_, μ 107 (14 + 6 * t), μ 107 (15 + 6 * t), ?_⟩, fun u hu h4 => ?_, fun u hu ne => ?_, ⟨fun u hu ne => ?_, X19⟩, fun j hj => ?_, ?_⟩
    · rw [w1 0 (by omega)]
      exact a1.of fun f hf => Xe f (by omega) (by omega) (by omega) (by omega)
    · rw [w1 (u + 1) (by omega)]
      exact (a2 u hu).of (Xe _ (by omega) (by omega) (by omega) (by omega)) (Xe _ (by omega) (by omega) (by omega) (by omega)) fun i hi => Xe _ (by omega) (by omega) (by omega) (by omega)
    · rw [w1 (t + 1) (by omega)]
      exact (a2 t ht).of rfl rfl fun i hi => Xe _ (by omega) (by omega) (by omega) (by omega)
    · rw [w1 (u + 1) (by omega)]
      exact ⟨(a3 u hu h4).1, fun i hi => by rw [Xe _ (by omega) (by omega) (by omega) (by omega)]; exact (a3 u hu h4).2 i hi⟩
    · rw [Xe (14 + 6 * u) (by omega) (by omega) (by omega) (by omega), Xe (15 + 6 * u) (by omega) (by omega) (by omega) (by omega)]; exact a4 u hu
    · unfold SVD
      rw [Xe (15 + 6 * u) (by omega) (by omega) (by omega) (by omega), Xe (14 + 6 * u) (by omega) (by omega) (by omega) (by omega), Xe (19 + 6 * u) (by omega) (by omega) (by omega) (by omega)]
      exact a5' u hu
    · by_cases c : j = l
      · subst c
        refine Or.inr ⟨t, ht, by rw [HNA.at]; exact pos, fun u hu ne => ?_, X6, by rw [HNA.at]; exact X10⟩
        rw [HNA.ne ne, hu' u j hu ne]
        rcases a6 j hj with ⟨b1, _⟩ | ⟨x, hx, _, _, b3, _⟩
        · exact b1 u hu
        · have := zo_inj (k := x + 1) (j := 0) (by omega) (by omega) (b3.symm.trans fr)
          omega
      · refine (a6 j hj).congr (fun u hu => ?_) (Xe _ (by omega) (by omega) (by omega) (by omega)) (Xe _ (by omega) (by omega) (by omega) (by omega))
        by_cases d : u = t
        · rw [d, HNA.at, hn, e8, if_neg fun q => c (zo_inj (by omega) (by omega) q.symm)]
        · rw [HNA.ne d, hu' u j hu d]
    · rw [Xe 38 (by omega) (by omega) (by omega) (by omega), Xe 39 (by omega) (by omega) (by omega) (by omega)]; exact a7
  have n7 : ¬ (σ1 36 t = 1 ∧ σ1 7 (24 * t + z) = 7) := by rw [f1 36 (by decide), (ld.2.2.1 t ht).1, v]; exact fun w => absurd w.1 (by decide)
  unfold zb_Machine_move_116
  rw [e9]
  refine zp_ite (fun q => absurd q (by decide)) fun _ => zp_ite (fun q => absurd q (by decide)) fun _ => zp_ite (fun q => absurd q (by decide)) fun _ => zp_ite (fun q => absurd q (by decide)) fun _ => zp_ite (fun q => absurd q (by decide)) fun _ => zp_ite (fun q => absurd q (by decide)) fun _ => zp_ite (fun q => absurd q (by decide)) fun _ => zp_ite (fun q => absurd q (by decide)) fun _ => zp_ite (fun q => absurd q (by decide)) fun _ => zp_ite (fun q => absurd q (by decide)) fun _ => zp_ite (fun q => absurd q (by decide)) fun _ => zp_ite (fun q => absurd q (by decide)) fun _ => zp_ite (fun q => absurd q (by decide)) fun _ => zp_mono (p_tailz (N' := N') (pc'.f Xq) mid g ht (by omega) n7 zl1 (fun lt => ((p5 t ht).2.2.1 z z1 zL lt (by rw [k7]; decide) e9).tr (OUTN.id (by rw [k7]; decide))) X15) fun r' h' => ⟨h'.1, ?_⟩
  unfold zf_M_doStep zf_M_at
  rw [zo_at t4]
  refine zp_bind (zp_some ?_)
  rw [zo_n (m := 14 + 6 * t) (by omega), es, (z24 t4 (by omega)).2.1, e93, e94, e6, e10, zo_n (m := 6 + l) (by omega), zo_n (m := 10 + l) (by omega), zo_1 (m := t) (by omega)]
  refine zp_chk fun _ => zp_chk fun _ => zp_bind (zp_mono (m_stateOf t4) fun r4 e4 => ?_)
  rw [v] at e4
  subst e4
  refine zp_ite (fun q => absurd rfl q) fun _ => zp_chk fun _ => zp_bind (zp_some ?_)
  rw [a5, zo_n (m := 19 + 6 * t) (by omega), show (zx_up μ 107 (6 + l) (Int32.ofNat (t + 1))) 107 (19 + 6 * t) = μ 107 (19 + 6 * t) by rw [zx_up_same, zu_ne (by omega)]]
  refine zp_chk fun _ => zp_chk fun _ => zp_bind (zp_some ?_)
  rw [a5, zo_n (m := 19 + 6 * t) (by omega)]
  refine zp_chk fun _ => zp_bind (zp_some ?_)
  rw [zo_1 (m := 14 + 6 * t) (by omega), zo_n (m := 14 + 6 * t + 1) (by omega), show 14 + 6 * t + 1 = 15 + 6 * t by omega, hX]
  exact zp_chk fun _ => zp_chk fun _ => zp_mono h'.2 fun s hs => ⟨fun p hp => (hs.1 p hp).trans (Xq p hp), hs.2⟩
theorem p_move {N N' m t : Nat} {len : Nat → Nat} {nc : Nat → Nat → Nat} {ρ μ σ : zS} {w : Nat → Int32} (pc : PC m len nc ρ μ) (st : ST m len nc ρ w (μ 107)) (ld : LDD m ρ w (μ 107) σ) (ht : t < m) (cx : CANX ρ (μ 107) t) : zp (zf_Machine_move N σ (Int32.ofNat t) (-1)) (fun r => (∀ p, p ≠ 40 → r p = σ p) ∧ zp (zf_M_doStep N' μ (Int32.ofNat t)) (fun s => (∀ p, p ≠ 107 → s p = μ p) ∧ ST m len nc ρ (r 40) (s 107))) := by
  have pc' := pc
  obtain ⟨⟨m4, p1, p1'⟩, p2, p3, p4, p5⟩ := pc
  have l24 := (p2 t ht).1
  have t4 : t < 4 := by omega
  obtain ⟨_, e5, _⟩ := p2 t ht
  obtain ⟨h36, h37⟩ := ld.2.2.1 t ht
  have back : ∀ {σ1 : zS} {r : zS}, (∀ p, p ≠ 40 → σ1 p = σ p) → (∀ p, p ≠ 40 → r p = σ1 p) → ∀ p, p ≠ 40 → r p = σ p := fun a b p hp => (b p hp).trans (a p hp)
  rcases cx with ⟨v, cx⟩ | ⟨v, cx⟩
  · obtain ⟨z, zL, es⟩ : ∃ z, z < len t ∧ μ 107 (14 + 6 * t) = Int32.ofNat z := by
      rcases st.2.2.2.1 t ht with k | ⟨_, z, k⟩ | k | k
      · rw [k.1] at v; exact absurd v (by decide)
      · exact ⟨z, k⟩
      · rcases k.1 with k | k <;> rw [k] at v <;> exact absurd v (by decide)
      · rw [k.1] at v; exact absurd v (by decide)
    obtain ⟨k92, _, _, _, nm, _, _⟩ := p4 t z ht zL
    refine c_move t4 (h37 z (by omega) es (by rw [e5]; exact (zo_lt (by omega) (by omega)).mpr zL)) (by omega) ld.2.1 (st.2.1 t ht) fun σ1 f1 w1 => ?_
    rw [h36, v, if_neg (by decide), ld.1 9 (by decide) (by decide), ld.1 7 (by decide) (by decide), k92]
    have ent : ∀ {Q : zS → Prop} (h : Int32), ((¬ (7 ≤ μ 92 (24 * t + z) ∧ μ 92 (24 * t + z) ≤ 9)) → h = 0) → ((7 ≤ μ 92 (24 * t + z) ∧ μ 92 (24 * t + z) ≤ 9) → ∃ l, l < 4 ∧ μ 93 (24 * t + z) = Int32.ofNat l ∧ h = (if μ 107 (6 + l) = Int32.ofNat (t + 1) then 1 else 0)) → zp (zb_M_doStep_139 N' μ (Int32.ofNat t) (Int32.ofNat (24 * t + z)) (μ 93 (24 * t + z)) h) Q → zp (zf_M_doStep N' μ (Int32.ofNat t)) Q := by
      intro Q h h0 h1 k
      unfold zf_M_doStep zf_M_at zb_M_doStep_138
      rw [zo_at t4]
      refine zp_bind (zp_some ?_)
      rw [zo_n (m := 14 + 6 * t) (by omega), es, (z24 t4 (by omega)).2.1, (z24 t4 (by omega)).2.2.2]
      refine zp_chk fun _ => zp_chk fun _ => zp_bind (zp_mono (m_stateOf t4) fun r4 e4 => ?_)
      rw [v] at e4
      subst e4
      refine zp_ite (fun _ => zp_chk fun _ => zp_bind (zp_mono p_M_in2 fun r7 h7 => ?_)) fun q => absurd (by decide) q
      rcases h7 with ⟨e7, a, b⟩ | ⟨e7, n⟩
      · subst e7
        obtain ⟨l, l4, e93, eh⟩ := h1 ⟨a, b⟩
        have e6 : (6 : Int32) + Int32.ofNat l = Int32.ofNat (6 + l) := zo_plus (i := 6) rfl (by omega)
        refine zp_ite (fun q => absurd q (by decide)) fun _ => ?_
        rw [e93, e6, zo_n (m := 6 + l) (by omega), zo_1 (m := t) (by omega)]
        rw [e93] at k
        refine zp_chk fun _ => zp_ite (fun q => ?_) fun q => ?_
        · rw [eh, if_neg q] at k; exact k
        · rw [eh, if_pos (Classical.not_not.mp q)] at k; exact k
      · subst e7
        rw [h0 n] at k
        exact zp_ite (fun _ => k) fun q => absurd rfl q
    have fin0 : ∀ r : zS, (¬ (7 ≤ μ 92 (24 * t + z) ∧ μ 92 (24 * t + z) ≤ 9)) → ((∀ p, p ≠ 40 → r p = σ1 p) ∧ zp (zb_M_doStep_139 N' μ (Int32.ofNat t) (Int32.ofNat (24 * t + z)) (μ 93 (24 * t + z)) 0) (fun s => (∀ p, p ≠ 107 → s p = μ p) ∧ ST m len nc ρ (r 40) (s 107))) → (∀ p, p ≠ 40 → r p = σ p) ∧ zp (zf_M_doStep N' μ (Int32.ofNat t)) (fun s => (∀ p, p ≠ 107 → s p = μ p) ∧ ST m len nc ρ (r 40) (s 107)) := fun r n h => ⟨back f1 h.1, ent 0 (fun _ => rfl) (fun q => absurd q n) h.2⟩
    generalize hk : μ 92 (24 * t + z) = k at *
    by_cases c0 : k = 0
    · subst c0; exact zp_mono (d_read (N' := N') pc' st ld ht zL v es f1 w1 hk) fun r hr => fin0 r (by decide) hr
    by_cases c1 : k = 1
    · subst c1; exact zp_mono (d_write (N' := N') pc' st ld ht zL v es f1 w1 hk) fun r hr => fin0 r (by decide) hr
    by_cases c2 : k = 2
    · subst c2; exact zp_mono (d_set (N' := N') pc' st ld ht zL v es f1 w1 hk) fun r hr => fin0 r (by decide) hr
    by_cases c3 : k = 3
    · subst c3; exact zp_mono (d_take (N' := N') pc' st ld ht zL v es f1 w1 hk (Or.inl ⟨v, cx⟩)) fun r hr => fin0 r (by decide) hr
    by_cases c4 : k = 4
    · subst c4; exact zp_mono (d_leave (N' := N') pc' st ld ht zL v es f1 w1 hk) fun r hr => fin0 r (by decide) hr
    by_cases c5 : k = 5
    · subst c5; exact zp_mono (d_test5 (N' := N') pc' st ld ht zL v es f1 w1 hk) fun r hr => fin0 r (by decide) hr
    by_cases c6 : k = 6
    · subst c6; exact zp_mono (d_test6 (N' := N') pc' st ld ht zL v es f1 w1 hk) fun r hr => fin0 r (by decide) hr
    by_cases c7 : k = 7
    · subst c7
      obtain ⟨l, l4, e8, e93, _⟩ := nm (by decide)
      exact zp_mono (d_wait (N' := N') pc' st ld ht zL v es f1 w1 hk l4 e8 e93) fun r hr => ⟨back f1 hr.1, ent _ (fun q => absurd (by decide) q) (fun _ => ⟨l, l4, e93, rfl⟩) hr.2⟩
    by_cases c8 : k = 8
    · subst c8
      obtain ⟨l, l4, e8, e93, _⟩ := nm (by decide)
      exact zp_mono (d_wake8 (N' := N') pc' st ld ht zL v es f1 w1 hk l4 e8 e93) fun r hr => ⟨back f1 hr.1, ent _ (fun q => absurd (by decide) q) (fun _ => ⟨l, l4, e93, rfl⟩) hr.2⟩
    by_cases c9 : k = 9
    · subst c9
      obtain ⟨l, l4, e8, e93, _⟩ := nm (by decide)
      exact zp_mono (d_wake9 (N' := N') pc' st ld ht zL v es f1 w1 hk l4 e8 e93) fun r hr => ⟨back f1 hr.1, ent _ (fun q => absurd (by decide) q) (fun _ => ⟨l, l4, e93, rfl⟩) hr.2⟩
    have n79 : ¬ (7 ≤ k ∧ k ≤ 9) := fun q => by
      obtain ⟨j, hj, ej⟩ := z_ex (x := k) (m := 10) (by omega) (Int32.le_trans (by decide) q.1) (Int32.lt_of_le_of_lt q.2 (by decide))
      have h7 := (zo_le (k := 7) (j := j) (by omega) (by omega)).mp (by rw [← ej]; exact q.1)
      have : j = 7 ∨ j = 8 ∨ j = 9 := by omega
      rcases this with h | h | h <;> subst h
      · exact c7 ej
      · exact c8 ej
      · exact c9 ej
    by_cases c10 : k = 10
    · subst c10; exact zp_mono (d_start (N' := N') pc' st ld ht zL v es f1 w1 hk) fun r hr => fin0 r n79 hr
    by_cases c12 : k = 12
    · subst c12; exact zp_mono (d_check (N' := N') pc' st ld ht zL v es f1 w1 hk) fun r hr => fin0 r n79 hr
    by_cases c13 : k = 13
    · subst c13; exact zp_mono (d_stop (N' := N') pc' st ld ht zL v es f1 w1 hk) fun r hr => fin0 r n79 hr
    refine zp_mono (d_other (N' := N') pc' st ld ht zL v es f1 w1 hk fun j hj e => ?_) fun r hr => fin0 r n79 hr
    subst e
    rcases hj with h | h | h | h | h | h | h | h | h | h | h | h | h <;> contradiction
  · obtain ⟨z, l, zL, es, k7, l4, e8, pos⟩ : ∃ z l, z < len t ∧ μ 107 (14 + 6 * t) = Int32.ofNat z ∧ ρ 7 (24 * t + z) = 7 ∧ l < 4 ∧ ρ 8 (24 * t + z) = Int32.ofNat l ∧ 0 < nc (24 * t + z) l := by
      rcases st.2.2.2.1 t ht with k | k | ⟨_, z, l, k⟩ | k
      · rw [k.1] at v; exact absurd v (by decide)
      · rcases k.1 with k | k <;> rw [k] at v <;> exact absurd v (by decide)
      · exact ⟨z, l, k⟩
      · rw [k.1] at v; exact absurd v (by decide)
    refine c_move t4 (h37 z (by omega) es (by rw [e5]; exact (zo_lt (by omega) (by omega)).mpr zL)) (by omega) ld.2.1 (st.2.1 t ht) fun σ1 f1 w1 => ?_
    rw [h36, v, if_pos rfl, ld.1 9 (by decide) (by decide)]
    exact zp_mono (d_woken (N' := N') pc' st ld ht zL v es k7 l4 e8 pos (cx z l (by omega) es l4 e8) f1 w1) fun r hr => ⟨back f1 hr.1, hr.2⟩
