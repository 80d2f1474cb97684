-- both answer alike
set_option maxRecDepth 2000
theorem m_37Y {N : Nat} {μ : zS} {Q : Int32 × zS → Prop} (h : ∀ ν : zS, (∀ q, q ≠ 114 → ν q = μ q) → (∀ p, p < 9216 → ν 114 p = 0) → zp ((zf_M_firstState N ν).bind fun r4 => (zf_M_put N r4).bind fun r5 => zb_M_run_68 N N r5.2 0) Q) : ∀ (n i : Nat) (ν : zS), i ≤ 9216 → (∀ q, q ≠ 114 → ν q = μ q) → (∀ l, l < i → ν 114 l = 0) → zp (zb_M_run_37 N n ν (Int32.ofNat i)) Q := by
  intro n
  induction n with
  | zero => intro _ _ _ _ _; exact zp_none
  | succ n ih =>
    intro i ν hi fr f
    rw [zb_M_run_37]
    refine zp_ite (fun q => h ν fr fun l hl => f l ?_) fun q => zp_chk fun _ => ?_
    · have := (zo_le (k := 9216) (j := i) (by omega) (by omega)).mp q
      omega
    · have lt : i < 9216 := by
        by_cases c : i < 9216
        · exact c
        · exact absurd ((zo_le (k := 9216) (j := i) (by omega) (by omega)).mpr (by omega)) q
      rw [zo_n (m := i) (by omega), zo_1 (m := i) (by omega)]
      refine ih (i + 1) _ (by omega) (fun q hq => by rw [zu_other hq]; exact fr q hq) fun l hl => ?_
      rw [zx_up_same]
      by_cases c : l = i
      · rw [c, zu_eq]
      · rw [zu_ne c]; exact f l (by omega)
theorem PJ.mk {m : Nat} {len : Nat → Nat} {nc : Nat → Nat → Nat} {σ : zS} (pc : PC m len nc σ σ) (pr : PRW σ σ) (pg : PG σ) (nw : NWC σ σ) (sp : ∀ b, b < 4 → SPB σ b) : PJ σ m len := by
  obtain ⟨⟨m4, e42, e17⟩, p2, p3, _, _⟩ := pc
  obtain ⟨c, len', c4, cs, lens, zs, _, _, row, c6, k13⟩ := pr
  have cm : c 2 = m := zo_inj (by omega) (by omega) ((cs 2 (by decide)).1.symm.trans e42)
  have el : ∀ t, t < m → len' t = len t := fun t ht => by
    have a := lens t (by omega)
    have b := p2 t ht
    exact zo_inj (by omega) (by omega) (a.2.1.symm.trans b.2.1)
  refine ⟨m4, e17, p2, p3, fun t ht s hs => ?_, nw, fun b hb => ⟨(sp b hb).1, fun t ht => ?_⟩⟩
  · have l24 := (p2 t ht).1
    have sk := pg.ok (Int32.ofNat t) (Int32.ofNat s) ((zo_le (k := 0) (j := t) (by omega) (by omega)).mpr (Nat.zero_le _)) (by rw [e17]; exact (zo_lt (by omega) (by omega)).mpr ht) ((zo_le (k := 0) (j := s) (by omega) (by omega)).mpr (Nat.zero_le _)) (by rw [zo_n (m := t) (by omega), (p2 t ht).2.2]; exact (zo_lt (by omega) (by omega)).mpr hs)
    rw [(z24 (t := t) (by omega) (show s ≤ 24 by omega)).2.2.2, zo_n (m := 24 * t + s) (by omega), zo_n (m := t) (by omega), (p2 t ht).2.2] at sk
    have rng : ∀ x : Int32, (0 ≤ x ∧ x ≤ Int32.ofNat (len t)) → RNG x := fun x hx => by
      have n := z_nat hx.1
      have b := Int32.le_iff_toInt_le.mp hx.2
      rw [zo_ti (by omega)] at b
      exact Or.inr ⟨x.toNatClampNeg, by omega, (zo_mk hx.1).symm⟩
    have r := row t s (by omega) (by rw [el t ht]; exact hs)
    have k := k13 t s (by omega) (by rw [el t ht]; exact hs)
    rw [el t ht] at k
    exact ⟨r, k, rng _ sk.bh, fun k => rng _ (sk.ot k)⟩
  · rw [(sp b hb).2 t ht]
    constructor
    · rintro ⟨t4, s, a1, a2, a3⟩
      by_cases c : t < m
      · have l24 := (p2 t c).1
        rw [(p2 t c).2.1] at a2
        exact ⟨c, s, (zo_lt (by omega) (by omega)).mp a2, a3⟩
      · rw [p3 t (by omega) t4] at a2
        have := (zo_lt (k := s) (j := 0) (by omega) (by omega)).mp a2
        omega
    · rintro ⟨c, s, a1, a3⟩
      have l24 := (p2 t c).1
      exact ⟨by omega, s, by omega, by rw [(p2 t c).2.1]; exact (zo_lt (by omega) (by omega)).mpr a1, a3⟩
theorem m_runY {N m c0 : Nat} {len : Nat → Nat} {nc : Nat → Nat → Nat} {ρ μ : zS} {ok : Prop} {sz : Int32} {R : Nat → Nat → Int32} {w43 w44 : Nat → Int32} (h21 : ¬ μ 82 21 = 0) (pc : PC m len nc ρ μ) (pj : PJ μ m len) (fd : FLD μ) (rows : ∀ q, 4 ≤ q → q ≤ 16 → μ q = ρ q) (fl : FLV ρ μ) (e40 : ρ 4 0 = Int32.ofNat c0) (e15 : μ 82 15 = Int32.ofNat c0) (c6 : c0 ≤ 6) (sta : STA m len ρ) (fn : FNX m len nc ρ ok sz R w43 w44) : zp (zf_M_run N μ) (fun s => (ok → s.1 = sz ∧ s.2 82 53 = 1 ∧ s.2 82 54 = sz ∧ ∃ n P XQ, n ≤ 4000 ∧ sz = Int32.ofNat n ∧ WAYS m P XQ w43 n ∧ LEA (s.2 114) 0 (fun j => Int32.ofNat (j + 1)) (fun j => RPA m ρ (row40 s.2 j)) n ∧ ∀ j, j < n → ST m len nc ρ (R j) (row40 s.2 j) ∧ KND m (w44 j) (row40 s.2 j) (s.2 113 j) ∧ (0 < j → s.2 111 j = Int32.ofNat (P j) ∧ s.2 112 j = Int32.ofNat (XQ j)) ∧ (w44 j = 1 → ∀ t, t < m → NMV ρ (row40 s.2 j) t)) ∧ (¬ ok → s.1 = -103 ∧ s.2 82 53 = 0)) := by
  have m4 := pc.1.1
  unfold zf_M_run
  refine zp_ite (fun _ => zp_bind (zp_mono (m_forget (b := 0) (by omega)) fun r2 h2 => ?_)) fun q => absurd h21 (fun n => q n)
  obtain ⟨rb, f2, g2⟩ := h2
  refine m_37Y (μ := zx_up r2 82 60 0) (fun ν fr z114 => ?_) N 0 _ (by omega) (fun _ _ => rfl) fun l hl => absurd hl (Nat.not_lt_zero _)
  have q82 : ∀ i, i ≠ 0 → i ≠ 53 → i ≠ 62 → i ≠ 51 → i ≠ 52 → i ≠ 60 → ν 82 i = μ 82 i := fun i a b c d e f => by
    rw [fr 82 (by decide), zx_up_same, zu_ne f, g2 i d e, zx_up_same, zu_ne c, zx_up_same, zu_ne b, zx_up_same, zu_ne a]
  have qq : ∀ q, q ≠ 82 → q ≠ 109 → q ≠ 114 → ν q = μ q := fun q a b c => by
    rw [fr q c, zu_other a, f2 q a b, zu_other a, zu_other a, zu_other a]
  have pc1 : PC m len nc ρ ν := pc.q (fun q hq => qq q (by omega) (by omega) (by omega)) (q82 17 (by decide) (by decide) (by decide) (by decide) (by decide) (by decide))
  have fl1 : FLV ρ ν := fl.of rfl rfl (qq 89 (by decide) (by decide) (by decide))
  have e151 : ν 82 15 = Int32.ofNat c0 := (q82 15 (by decide) (by decide) (by decide) (by decide) (by decide) (by decide)).trans e15
  have rb1 : RTB 0 0 ν := rb.of (fun q hq => by rw [fr q (by omega), zu_other (by omega)]) ⟨by rw [fr 82 (by decide), zx_up_same, zu_ne (by decide)], by rw [fr 82 (by decide), zx_up_same, zu_ne (by decide)]⟩
  have z53 : ν 82 53 = 0 := by rw [fr 82 (by decide), zx_up_same, zu_ne (by decide), g2 53 (by decide) (by decide), zx_up_same, zu_ne (by decide), zx_up_same, zu_eq]
  have go : ∀ (W V : Nat → Nat → Int32) (P XQ : Nat → Nat) {Q : Int32 × zS → Prop}, FSTW ρ (W 0) → (∀ ν1, RGY m len nc ρ W V P XQ 0 0 1 ν1 → zp (zb_M_run_68 N N ν1 0) Q) → zp ((zf_M_firstState N ν).bind fun r4 => (zf_M_put N r4).bind fun r5 => zb_M_run_68 N N r5.2 0) Q := by
    intro W V P XQ Q fw k
    refine zp_bind (zp_mono (m_first pc1 fl1 e40 e151 c6 sta fw) fun r4 h4 => ?_)
    obtain ⟨f4, st⟩ := h4
    have pc4 := pc1.f f4
    have rb4 : RTB 0 0 r4 := rb1.of (fun q hq => f4 q (by omega)) ⟨by rw [f4 82 (by decide)], by rw [f4 82 (by decide)]⟩
    refine zp_bind (zp_mono (m_put rb4 (st.byte pc4)) fun r5 h5 => k r5.2 ?_)
    rcases h5 with ⟨s, _, hs, _⟩ | ⟨_, ⟨_, _, rn⟩ | ⟨nn, _⟩⟩
    · exact absurd hs (by omega)
    · obtain ⟨rb5, rnew, _, f5, g5⟩ := rn
      have kq : ∀ q, q ≠ 82 → q < 107 ∨ 110 < q → q ≠ 114 → q ≠ 109 → q ≠ 107 → r5.2 q = μ q := fun q x y z w v => by rw [f5 q x (by omega) (by omega) (by omega), f4 q v, qq q x w z]
      refine ⟨pc4.q (fun q hq => f5 q (by omega) (by omega) (by omega) (by omega)) (g5 17 (by decide)), rb5, fun j hj => ?_, ?_, fun j a b => absurd b (by omega), fun s hs => absurd hs (Nat.not_lt_zero _), ⟨pj.of (fun q hq => kq q (by omega) (by omega) (by omega) (by omega) (by omega)) (by rw [g5 17 (by decide), f4 82 (by decide)]; exact q82 17 (by decide) (by decide) (by decide) (by decide) (by decide) (by decide)), fd.of fun q hq => kq q (by omega) (by omega) (by omega) (by omega) (by omega)⟩, fun q a b => (kq q (by omega) (by omega) (by omega) (by omega) (by omega)).trans (rows q a b), LEA.zero fun p hp => ?_⟩
      · have j0 : j = 0 := by omega
        subst j0
        exact st.congr m4 (fun _ _ => rfl) rnew
      · rw [g5 53 (by decide), f4 82 (by decide)]
        exact z53
      · rw [f5 114 (by decide) (by decide) (by decide) (by decide), f4 114 (by decide)]
        exact z114 p hp
    · omega
  rcases fn with ⟨hok, n, W, same, n4, pos, e, fw, dis, M, V, P, XQ, ⟨m0, mT, mS, mB⟩, ⟨v0, v4⟩, wy, ms⟩ | ⟨hno, W, fw, dis, S, T, x43, x44, v, S4, Tm, ⟨M, V, P, XQ, ⟨m0, mT, mS, mB⟩, ⟨v0, vT, v4⟩, wy, ms⟩, can, w', mv, new⟩
  · refine go W V P XQ fw fun ν1 rg => ?_
    refine zp_mono (m_doneY (N := N) n4 dis mT mS mB (fun s t hs ht => (ms s t hs ht).2) (by omega) v0 N 0 ν1 (by omega) (by rw [m0]; exact rg)) fun r hr => ⟨fun _ => ?_, fun q => absurd hok q⟩
    obtain ⟨r1, r2, r3, r4, r5⟩ := hr
    refine ⟨by rw [r1, e], r2, by rw [r3, e], n, P, XQ, n4, e, wy, r5, fun j hj => ?_⟩
    obtain ⟨a1, a2, a3⟩ := r4 j hj
    refine ⟨a1.congr m4 (same j hj) (fun _ _ => rfl), by rw [v4 j hj]; exact a2, a3, fun o t ht => ?_⟩
    rw [v4 j hj] at o
    exact CANV.no (vl_all j (fun t ht => (ms j t hj ht).2.2) o t ht) a1 m4 ht
  · refine go W V P XQ fw fun ν1 rg => ?_
    exact zp_mono (m_manyY (N := N) dis Tm mT mS mB (fun s t k => (ms s t k).2) (by omega) v0 can mv new N 0 ν1 (by omega) (by rw [m0]; exact rg)) fun r hr => ⟨fun q => absurd q hno, fun _ => hr⟩
