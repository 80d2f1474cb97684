-- both answer alike
set_option maxRecDepth 2000
theorem m_37 {N : Nat} {μ : zS} {Q : Int32 × zS → Prop} (h : ∀ ν : zS, (∀ q, q ≠ 114 → ν q = μ q) → zp ((zf_M_firstState N ν).bind fun r4 => (zf_M_put N r4).bind fun r5 => zb_M_run_68 N N r5.2 0) Q) : ∀ (n : Nat) (ν : zS) (v : Int32), (∀ q, q ≠ 114 → ν q = μ q) → zp (zb_M_run_37 N n ν v) Q := by
  intro n
  induction n with
  | zero => intro _ _ _; exact zp_none
  | succ n ih =>
    intro ν v fr
    rw [zb_M_run_37]
    exact zp_ite (fun _ => h ν fr) fun _ => zp_chk fun _ => ih _ _ fun q hq => by rw [zu_other hq]; exact fr q hq
theorem m_runE {N m c0 : Nat} {len : Nat → Nat} {nc : Nat → Nat → Nat} {ρ μ : zS} {ok : Prop} {sz : Int32} (h21 : ¬ μ 82 21 = 0) (pc : PC m len nc ρ μ) (fl : FLV ρ μ) (e40 : ρ 4 0 = Int32.ofNat c0) (e15 : μ 82 15 = Int32.ofNat c0) (c6 : c0 ≤ 6) (sta : STA m len ρ) (fn : FND m len nc ρ ok sz) : zp (zf_M_run N μ) (fun s => (ok → s.1 = sz) ∧ (¬ ok → s.1 = -103)) := by
  have m4 := pc.1.1
  unfold zf_M_run
  refine zp_ite (fun _ => zp_bind (zp_mono (m_forget (b := 0) (by omega)) fun r2 h2 => ?_)) fun q => absurd h21 (fun n => q n)
  obtain ⟨rb, f2, g2⟩ := h2
  refine m_37 (μ := zx_up r2 82 60 0) (fun ν fr => ?_) N _ 0 fun _ _ => rfl
  have q82 : ∀ i, i ≠ 0 → i ≠ 53 → i ≠ 62 → i ≠ 51 → i ≠ 52 → i ≠ 60 → ν 82 i = μ 82 i := fun i a b c d e f => by
    rw [fr 82 (by decide), zx_up_same, zu_ne f, g2 i d e, zx_up_same, zu_ne c, zx_up_same, zu_ne b, zx_up_same, zu_ne a]
  have qq : ∀ q, q ≠ 82 → q ≠ 109 → q ≠ 114 → ν q = μ q := fun q a b c => by
    rw [fr q c, zu_other a, f2 q a b, zu_other a, zu_other a, zu_other a]
  have pc1 : PC m len nc ρ ν := pc.q (fun q hq => qq q (by omega) (by omega) (by omega)) (q82 17 (by decide) (by decide) (by decide) (by decide) (by decide) (by decide))
  have fl1 : FLV ρ ν := fl.of rfl rfl (qq 89 (by decide) (by decide) (by decide))
  have e151 : ν 82 15 = Int32.ofNat c0 := (q82 15 (by decide) (by decide) (by decide) (by decide) (by decide) (by decide)).trans e15
  have rb1 : RTB 0 0 ν := rb.of (fun q hq => by rw [fr q (by omega), zu_other (by omega)]) ⟨by rw [fr 82 (by decide), zx_up_same, zu_ne (by decide)], by rw [fr 82 (by decide), zx_up_same, zu_ne (by decide)]⟩
  have go : ∀ (W : Nat → Nat → Int32) {Q : Int32 × zS → Prop}, FSTW ρ (W 0) → (∀ ν1, RGS m len nc ρ W 1 ν1 → zp (zb_M_run_68 N N ν1 0) Q) → zp ((zf_M_firstState N ν).bind fun r4 => (zf_M_put N r4).bind fun r5 => zb_M_run_68 N N r5.2 0) Q := by
    intro W Q fw k
    refine zp_bind (zp_mono (m_first pc1 fl1 e40 e151 c6 sta fw) fun r4 h4 => ?_)
    obtain ⟨f4, st⟩ := h4
    have pc4 := pc1.f f4
    have rb4 : RTB 0 0 r4 := rb1.of (fun q hq => f4 q (by omega)) ⟨by rw [f4 82 (by decide)], by rw [f4 82 (by decide)]⟩
    refine zp_bind (zp_mono (m_put rb4 (st.byte pc4)) fun r5 h5 => k r5.2 ?_)
    rcases h5 with ⟨s, _, hs, _⟩ | ⟨_, ⟨_, _, rn⟩ | ⟨nn, _⟩⟩
    · exact absurd hs (by omega)
    · obtain ⟨rb5, rnew, _, f5, g5⟩ := rn
      refine ⟨pc4.q (fun q hq => f5 q (by omega) (by omega) (by omega) (by omega)) (g5 17 (by decide)), rb5, fun j hj => ?_⟩
      have j0 : j = 0 := by omega
      subst j0
      exact st.congr m4 (fun _ _ => rfl) rnew
    · omega
  rcases fn with ⟨hok, n, W, n4, pos, e, fw, dis, M, m0, mT, mS, mB, ms⟩ | ⟨hno, W, fw, dis, S, T, S4, Tm, ⟨M, m0, mT, mS, mB, ms⟩, can, w', mv, new⟩
  · refine go W fw fun ν1 rg => ?_
    refine zp_mono (m_done (N := N) n4 dis mT mS mB (fun s t hs ht => (ms s t hs ht).2) (by omega) N 0 ν1 (by omega) (by rw [m0]; exact rg)) fun r hr => ⟨fun _ => ?_, fun q => absurd hok q⟩
    rw [hr, e]
  · refine go W fw fun ν1 rg => ?_
    exact zp_mono (m_many (N := N) dis Tm mT mS mB (fun s t k => (ms s t k).2) (by omega) can mv new N 0 ν1 (by omega) (by rw [m0]; exact rg)) fun r hr => ⟨fun q => absurd q hno, fun _ => hr⟩
theorem PC.mk {σ : zS} (pr : PRW σ σ) (pg : PG σ) (wk : WKA σ σ) (jt : JTH σ) (ns : NSF σ) : ∃ m len nc, PC m len nc σ σ ∧ ∃ c0, c0 ≤ 6 ∧ σ 4 0 = Int32.ofNat c0 ∧ σ 82 15 = Int32.ofNat c0 := by
  obtain ⟨c, len, c4, cs, lens, zs, _, _, row, c6, k13⟩ := pr
  obtain ⟨nc, hn⟩ := ns
  have l24 : ∀ t, t < c 2 → len t ≤ 24 := fun t ht => (lens t ht).1
  refine ⟨c 2, len, nc, ⟨⟨c4, (cs 2 (by decide)).1, (cs 2 (by decide)).2⟩, lens, zs, fun t s ht hs => ?_, fun t ht => ?_⟩, c 0, c6 0 (by decide), (cs 0 (by decide)).1, (cs 0 (by decide)).2⟩
  · have l := l24 t ht
    obtain ⟨r7, r8, _, r9, r10, _, _, _⟩ := row t s ht hs
    have lt5 : Int32.ofNat s < σ 5 t := by rw [(lens t ht).2.1]; exact (zo_lt (by omega) (by omega)).mpr hs
    have q90 : σ 90 t = Int32.ofNat (len t) := (lens t ht).2.2
    have sk : SK σ (24 * t + s) (Int32.ofNat (len t)) := by
      have k := pg.ok (Int32.ofNat t) (Int32.ofNat s) ((zo_le (k := 0) (j := t) (by omega) (by omega)).mpr (Nat.zero_le _)) (by rw [(cs 2 (by decide)).2]; exact (zo_lt (by omega) (by omega)).mpr ht) ((zo_le (k := 0) (j := s) (by omega) (by omega)).mpr (Nat.zero_le _)) (by rw [zo_n (m := t) (by omega), q90]; exact (zo_lt (by omega) (by omega)).mpr hs)
      rw [zo_n (m := t) (by omega), q90, (z24 (by omega) (by omega)).2.1] at k
      exact k
    have ex : ∀ (v : Int32) (b : Nat), b ≤ 1000 → 0 ≤ v → v ≤ Int32.ofNat b → ∃ z, z ≤ b ∧ v = Int32.ofNat z := fun v b hb h0 h1 => by
      obtain ⟨z, hz, e⟩ := z_ex (m := b + 1) (by omega) h0 (Int32.lt_of_le_of_lt h1 ((zo_lt (by omega) (by omega)).mpr (by omega)))
      exact ⟨z, by omega, e⟩
    refine ⟨r7, ?_, fun k => ?_, fun k => ?_, fun k => ?_, fun k => ?_, wk t s (by omega) (by omega) lt5⟩
    · obtain ⟨z, hz, e⟩ := ex _ (len t) (by omega) sk.bh.1 sk.bh.2
      exact ⟨z, hz, r9.trans e, e, fun q => zo_inj (by omega) (by omega) ((r9.trans e).symm.trans (k13 t s ht hs q))⟩
    · obtain ⟨z, hz, e⟩ := ex _ (len t) (by omega) (sk.ot k).1 (sk.ot k).2
      exact ⟨z, hz, (r10 k).trans e, e⟩
    · obtain ⟨z, hz, e⟩ := ex _ 5 (by omega) (sk.w1 k) sk.w0.2
      exact ⟨z, by omega, (r8 (by unfold named; rcases k with k | k <;> rw [k] <;> decide)).trans e, e⟩
    · obtain ⟨z, hz, e⟩ := ex _ 3 (by omega) (sk.w2 k).1 (sk.w2 k).2
      have e8 : σ 8 (24 * t + s) = Int32.ofNat z := (r8 (by unfold named; rcases k with k | k | k | k | k | k | k <;> rw [k] <;> decide)).trans e
      refine ⟨z, by omega, e8, e, fun q => ?_⟩
      have j := (jt t s (by omega) (by omega) lt5 (by rw [r7]; exact q)).2
      rw [e8, (cs 2 (by decide)).1] at j
      exact (zo_lt (by omega) (by omega)).mp j
    · obtain ⟨z, hz, e⟩ := ex _ 2 (by omega) (sk.it k).1 (sk.it k).2
      have w := wk t s (by omega) (by omega) lt5
      refine ⟨z, by omega, ?_, e⟩
      rcases k with k | k
      · exact (w.1 (r7.trans k)).trans e
      · exact (w.2.2.1 (r7.trans k)).1.trans e
  · obtain ⟨n, _, e5, nr⟩ := hn t (by omega)
    have : n = len t := zo_inj (by omega) (by have := l24 t ht; omega) (e5.symm.trans (lens t ht).2.1)
    rw [← this]
    exact nr
theorem STA.mk {m : Nat} {len : Nat → Nat} {nc : Nat → Nat → Nat} {σ : zS} (pc : PC m len nc σ σ) (jt : JTH σ) (sp : ∀ b, b < 4 → SPB σ b) : STA m len σ := by
  obtain ⟨⟨m4, e42, _⟩, p2, p3, _, _⟩ := pc
  have zero : ∀ t, t < 4 → (σ 6 t = 0 ↔ ∀ u, u < 24 → ¬ bit (σ 6 t) u) := fun t ht => by
    obtain ⟨lo, _⟩ := sp t ht
    exact ⟨fun z u hu => by rw [z]; exact bit_zero hu, fun h => lo.ext LOW.zero fun u hu => ⟨fun b => absurd b (h u hu), fun b => absurd b (bit_zero hu)⟩⟩
  refine ⟨fun t ht => ?_, fun t h1 h2 => ?_⟩
  · rw [zero t (by omega)]
    obtain ⟨_, b⟩ := sp t (by omega)
    refine ⟨fun h u s hu hs k7 k8 => ?_, fun h u hu bb => ?_⟩
    · have lu := (p2 u hu).1
      exact h u (by omega) ((b u (by omega)).mpr ⟨by omega, s, by omega, by rw [(p2 u hu).2.1]; exact (zo_lt (by omega) (by omega)).mpr hs, k7, k8⟩)
    · obtain ⟨u4, s, s24, lt, k7, k8⟩ := (b u hu).mp bb
      have um : u < m := by
        by_cases c : u < m
        · exact c
        · rw [p3 u (by omega) u4] at lt
          have := (zo_lt (k := s) (j := 0) (by omega) (by omega)).mp lt
          omega
      rw [(p2 u um).2.1] at lt
      have lu := (p2 u um).1
      exact h u s um ((zo_lt (by omega) (by omega)).mp lt) k7 k8
  · rw [zero t h2]
    obtain ⟨_, b⟩ := sp t h2
    intro u hu bb
    obtain ⟨u4, s, s24, lt, k7, k8⟩ := (b u hu).mp bb
    have j := (jt u s u4 s24 lt (Or.inl k7)).2
    rw [k8, e42] at j
    have := (zo_lt (k := t) (j := m) (by omega) (by omega)).mp j
    omega
