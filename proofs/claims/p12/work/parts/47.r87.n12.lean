-- both answer alike
set_option maxRecDepth 2000
theorem lst_outL {m c0 n : Nat} {L L' : Nat → Int32} {X : Nat → Nat → Int32} (e : ∀ s, s < n → L' s = L s) : lst (pOut m c0 L' X) 0 n = lst (pOut m c0 L X) 0 n := by
  refine lst_congr n 0 fun s _ hs => ?_
  unfold pOut
  rw [e s (by omega)]
  constructor
  · intro h
    exact ⟨h.1, fun s' h1 h2 => h.2 s' h1 (by rw [e s' (by omega)]; exact h2)⟩
  · intro h
    exact ⟨h.1, fun s' h1 h2 => h.2 s' h1 (by rw [← e s' (by omega)]; exact h2)⟩
theorem m_runZ {N m c0 : Nat} {len : Nat → Nat} {nc : Nat → Nat → Nat} {ρ μ : zS} {ok : Prop} {sz : Int32} {R : Nat → Nat → Int32} {w43 w44 : Nat → Int32} (h21 : ¬ μ 82 21 = 0) (pc : PC m len nc ρ μ) (pj : PJ μ m len) (fd : FLD μ) (nwr : NWR m len c0 ρ) (rows : ∀ q, 4 ≤ q → q ≤ 16 → μ q = ρ q) (fl : FLV ρ μ) (e40 : ρ 4 0 = Int32.ofNat c0) (e15 : μ 82 15 = Int32.ofNat c0) (c6 : c0 ≤ 6) (sta : STA m len ρ) (fn : FNX m len nc ρ ok sz R w43 w44) : zp (zf_M_run N μ) (fun s => (ok → s.1 = sz ∧ s.2 82 53 = 1 ∧ s.2 82 54 = sz ∧ ∃ n P XQ, n ≤ 4000 ∧ sz = Int32.ofNat n ∧ WAYS m P XQ w43 n ∧ LEA (s.2 114) 0 (fun j => Int32.ofNat (j + 1)) (fun j => RPA m ρ (row40 s.2 j)) n ∧ ((∀ j, j < n → ∀ f, c0 ≤ f → f < 6 → row40 s.2 j f = 0) ∧ STL (s.2 82 60) (s.2 115) (lst (pOut m c0 w44 (row40 s.2)) 0 n)) ∧ ∀ j, j < n → ST m len nc ρ (R j) (row40 s.2 j) ∧ KND m (w44 j) (row40 s.2 j) (s.2 113 j) ∧ (0 < j → s.2 111 j = Int32.ofNat (P j) ∧ s.2 112 j = Int32.ofNat (XQ j)) ∧ (w44 j = 1 → ∀ t, t < m → NMV ρ (row40 s.2 j) t)) ∧ (¬ ok → s.1 = -103 ∧ s.2 82 53 = 0)) := by
  have m4 := pc.1.1
  unfold zf_M_run
  refine zp_ite (fun _ => zp_bind (zp_mono (m_forget (b := 0) (by omega)) fun r2 h2 => ?_)) fun q => absurd h21 (fun n => q n)
  obtain ⟨rb, f2, g2⟩ := h2
  refine m_37Y (μ := zx_up r2 82 60 0) (fun ν fr z114 => ?_) N 0 _ (by omega) (fun _ _ => rfl) fun l hl => absurd hl (Nat.not_lt_zero _)
  have q82 : ∀ i, i ≠ 0 → i ≠ 53 → i ≠ 62 → i ≠ 51 → i ≠ 52 → i ≠ 60 → ν 82 i = μ 82 i := fun i a b c d e f => by
    rw [fr 82 (by decide), zx_up_same, zu_ne f, g2 i d e, zx_up_same, zu_ne c, zx_up_same, zu_ne b, zx_up_same, zu_ne a]
  have qq : ∀ q, q ≠ 82 → q ≠ 109 → q ≠ 114 → ν q = μ q := fun q a b c => by
    rw [fr q c, zu_other a, f2 q a b, zu_other a, zu_other a, zu_other a]
  have pc1 : PC m len nc ρ ν := pc.q (fun q hq => qq q (by omega) (by omega) (by omega)) (q82 17 (by decide) (by decide) (by decide) (by decide) (by decide) (by decide))
  have fl1 : FLV ρ ν := fl.of rfl rfl (qq 89 (by decide) (by decide) (by decide))
  have e151 : ν 82 15 = Int32.ofNat c0 := (q82 15 (by decide) (by decide) (by decide) (by decide) (by decide) (by decide)).trans e15
  have rb1 : RTB 0 0 ν := rb.of (fun q hq => by rw [fr q (by omega), zu_other (by omega)]) ⟨by rw [fr 82 (by decide), zx_up_same, zu_ne (by decide)], by rw [fr 82 (by decide), zx_up_same, zu_ne (by decide)]⟩
  have z53 : ν 82 53 = 0 := by rw [fr 82 (by decide), zx_up_same, zu_ne (by decide), g2 53 (by decide) (by decide), zx_up_same, zu_ne (by decide), zx_up_same, zu_eq]
  have go : ∀ (W V : Nat → Nat → Int32) (P XQ : Nat → Nat) {Q : Int32 × zS → Prop}, FSTW ρ (W 0) → (∀ ν1, RGZ m len nc ρ W V P XQ c0 0 0 1 ν1 → zp (zb_M_run_68 N N ν1 0) Q) → zp ((zf_M_firstState N ν).bind fun r4 => (zf_M_put N r4).bind fun r5 => zb_M_run_68 N N r5.2 0) Q := by
    intro W V P XQ Q fw k
    refine zp_bind (zp_mono (m_first pc1 fl1 e40 e151 c6 sta fw) fun r4 h4 => ?_)
    obtain ⟨f4, st⟩ := h4
    have pc4 := pc1.f f4
    have rb4 : RTB 0 0 r4 := rb1.of (fun q hq => f4 q (by omega)) ⟨by rw [f4 82 (by decide)], by rw [f4 82 (by decide)]⟩
    refine zp_bind (zp_mono (m_put rb4 (st.byte pc4)) fun r5 h5 => k r5.2 ?_)
    rcases h5 with ⟨s, _, hs, _⟩ | ⟨_, ⟨_, _, rn⟩ | ⟨nn, _⟩⟩
    · exact absurd hs (by omega)
    · obtain ⟨rb5, rnew, _, f5, g5⟩ := rn
      have kq : ∀ q, q ≠ 82 → q < 107 ∨ 110 < q → q ≠ 114 → q ≠ 109 → q ≠ 107 → r5.2 q = μ q := fun q x y z w v => by rw [f5 q x (by omega) (by omega) (by omega), f4 q v, qq q x w z]
      refine ⟨pc4.q (fun q hq => f5 q (by omega) (by omega) (by omega) (by omega)) (g5 17 (by decide)), rb5, fun j hj => ?_, ?_, fun j a b => absurd b (by omega), fun s hs => absurd hs (Nat.not_lt_zero _), ⟨⟨pj.of (fun q hq => kq q (by omega) (by omega) (by omega) (by omega) (by omega)) (by rw [g5 17 (by decide), f4 82 (by decide)]; exact q82 17 (by decide) (by decide) (by decide) (by decide) (by decide) (by decide)), fd.of fun q hq => kq q (by omega) (by omega) (by omega) (by omega) (by omega)⟩, fun q a b => (kq q (by omega) (by omega) (by omega) (by omega) (by omega)).trans (rows q a b), LEA.zero fun p hp => ?_⟩, Nat.zero_le _, ⟨c6, by rw [g5 15 (by decide), f4 82 (by decide)]; exact e151⟩, fun j hj f a b => ?_, ?_⟩
      · have j0 : j = 0 := by omega
        subst j0
        exact st.congr m4 (fun _ _ => rfl) rnew
      · rw [g5 53 (by decide), f4 82 (by decide)]
        exact z53
      · rw [f5 114 (by decide) (by decide) (by decide) (by decide), f4 114 (by decide)]
        exact z114 p hp
      · have j0 : j = 0 := by omega
        subst j0
        have x0 : row40 r5.2 0 f = r4 107 f := rnew f (by omega)
        rw [x0]
        have fwb := st.1
        rw [fw.1] at fwb
        refine gb_ext fun i hi => ?_
        rw [gb_zero]
        by_cases c : i < 3
        · rw [← fwb.2.1 f b i c]
          exact fl1.2 c0 e40 c6 (3 * f + i) (by omega)
        · exact gb_lo7 (fwb.1 f b) (by omega)
      · have e60 : r5.2 82 60 = 0 := by rw [g5 60 (by decide), f4 82 (by decide), fr 82 (by decide), zx_up_same, zu_eq]
        rw [e60, lst]
        exact STL.nil
    · omega
  rcases fn with ⟨hok, n, W, same, n4, pos, e, fw, dis, M, V, P, XQ, ⟨m0, mT, mS, mB⟩, ⟨v0, v4⟩, wy, ms⟩ | ⟨hno, W, fw, dis, S, T, x43, x44, v, S4, Tm, ⟨M, V, P, XQ, ⟨m0, mT, mS, mB⟩, ⟨v0, vT, v4⟩, wy, ms⟩, can, w', mv, new⟩
  · refine go W V P XQ fw fun ν1 rg => ?_
    refine zp_mono (m_doneZ (N := N) n4 dis mT mS mB (fun s t hs ht => (ms s t hs ht).2) (by omega) v0 nwr N 0 ν1 (by omega) (by rw [m0]; exact rg)) fun r hr => ⟨fun _ => ?_, fun q => absurd hok q⟩
    obtain ⟨r1, r2, r3, r4, r5, r6, r7⟩ := hr
    refine ⟨by rw [r1, e], r2, by rw [r3, e], n, P, XQ, n4, e, wy, r5, ⟨r6, ?_⟩, fun j hj => ?_⟩
    · rw [lst_outL (L := fun s => V s m) fun s hs => v4 s hs]
      exact r7
    obtain ⟨a1, a2, a3⟩ := r4 j hj
    refine ⟨a1.congr m4 (same j hj) (fun _ _ => rfl), by rw [v4 j hj]; exact a2, a3, fun o t ht => ?_⟩
    rw [v4 j hj] at o
    exact CANV.no (vl_all j (fun t ht => (ms j t hj ht).2.2) o t ht) a1 m4 ht
  · refine go W V P XQ fw fun ν1 rg => ?_
    exact zp_mono (m_manyZ (N := N) dis Tm mT mS mB (fun s t k => (ms s t k).2) (by omega) v0 nwr can mv new N 0 ν1 (by omega) (by rw [m0]; exact rg)) fun r hr => ⟨fun q => absurd q hno, fun _ => hr⟩
