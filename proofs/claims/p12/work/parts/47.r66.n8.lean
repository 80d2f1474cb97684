-- both answer alike
set_option maxRecDepth 2000
def NMV (ρ : zS) (x : Nat → Int32) (t : Nat) : Prop := ∀ z l, z < 24 → x (14 + 6 * t) = Int32.ofNat z → x (15 + 6 * t) = 1 → Int32.ofNat z < ρ 5 t → ρ 7 (24 * t + z) = 3 → l < 4 → ρ 8 (24 * t + z) = Int32.ofNat l → ¬ x (6 + l) = Int32.ofNat (t + 1)
theorem c_can0 {m t z l : Nat} {ρ σ : zS} {w x : Nat → Int32} (m4 : m ≤ 4) (ld : LDD m ρ w x σ) (ht : t < m) (hz : z < 24) (es : x (14 + 6 * t) = Int32.ofNat z) (v : x (15 + 6 * t) = 1) (lt : Int32.ofNat z < ρ 5 t) (k7 : ρ 7 (24 * t + z) = 3) (hl : l < 4) (e8 : ρ 8 (24 * t + z) = Int32.ofNat l) (own : x (6 + l) = Int32.ofNat (t + 1)) : zp (zf_Machine_canMove σ (Int32.ofNat t)) (fun a => a = 1) := by
  obtain ⟨l1, l2, l3, l4⟩ := ld
  have t4 : t < 4 := by omega
  obtain ⟨h36, h37⟩ := l3 t ht
  have slot := h37 z hz es lt
  unfold zf_Machine_canMove
  refine zp_bind (zp_mono (c_howOf t4) fun r1 e1 => zp_bind (zp_mono (c_slotOf t4) fun r2 e2 => ?_))
  rw [h36, v] at e1
  rw [slot] at e2
  subst e1 e2
  rw [zo_n (m := 24 * t + z) (by omega), l1 7 (by decide) (by decide), l1 8 (by decide) (by decide), e8]
  refine zp_chk fun _ => zp_ite (fun _ => zp_ite (fun _ => zp_chk fun _ => ?_) fun q => absurd rfl q) fun q => absurd q (by decide)
  unfold zb_Machine_canMove_108 zb_Machine_canMove_134
  refine zp_ite (fun _ => ?_) fun q => absurd k7 q
  refine zp_bind (zp_mono (c_ownerOf hl) fun r13 e13 => zp_ite (fun q => zp_some rfl) fun q => zp_bind (zp_mono (c_ownerOf hl) fun r15 e15 => zp_ite (fun y => ?_) fun y => zp_some rfl))
  rcases l4 l hl with ⟨_, o⟩ | ⟨u, hu, o, o'⟩
  · have := zo_inj (k := t + 1) (j := 0) (by omega) (by omega) (own.symm.trans o)
    omega
  · have ut : u = t := by
      have := zo_inj (k := t + 1) (j := u + 1) (by omega) (by omega) (own.symm.trans o')
      omega
    rw [o, ut] at e15
    exact absurd e15 y
theorem CANV.no {m t : Nat} {len : Nat → Nat} {nc : Nat → Nat → Nat} {ρ : zS} {w x : Nat → Int32} (h : CANV m len nc ρ w t 0) (st : ST m len nc ρ w x) (m4 : m ≤ 4) (ht : t < m) : NMV ρ x t := fun z l hz es v lt k7 hl e8 own => by
  obtain ⟨σ, lo, e⟩ := h
  have k : (0 : Int32) = 1 := c_can0 m4 (lo x st) ht hz es v lt k7 hl e8 own 0 e
  exact absurd k (by decide)
theorem vl_all {m : Nat} {len : Nat → Nat} {nc : Nat → Nat → Nat} {ρ : zS} {W : Nat → Nat → Int32} {M : Nat → Nat → Nat} {V : Nat → Nat → Int32} {P XQ : Nat → Nat} (S : Nat) (suc : ∀ t, t < m → SUX m len nc ρ W M V P XQ S t) (o : V S m = 1) : ∀ t, t < m → CANV m len nc ρ (W S) t 0 := by
  have z : ∀ k t, t + k = m → V S t = 0 → V S m = 0 := by
    intro k
    induction k with
    | zero => intro t e z; rw [show m = t by omega]; exact z
    | succ k ih =>
      intro t e z
      rcases suc t (by omega) with ⟨_, _, f⟩ | ⟨_, f, _⟩
      · exact ih (t + 1) (by omega) (f.trans z)
      · exact ih (t + 1) (by omega) f
  intro t ht
  rcases suc t ht with ⟨c, _⟩ | ⟨_, f, _⟩
  · exact c
  · exact absurd ((z (m - (t + 1)) (t + 1) (by omega) f).symm.trans o) (by decide)
def FNX (m : Nat) (len : Nat → Nat) (nc : Nat → Nat → Nat) (ρ : zS) (ok : Prop) (sz : Int32) (R : Nat → Nat → Int32) (w43 w44 : Nat → Int32) : Prop := (ok ∧ ∃ n W, (∀ j, j < n → SAME5 (R j) (W j)) ∧ n ≤ 4000 ∧ 0 < n ∧ sz = Int32.ofNat n ∧ FSTW ρ (W 0) ∧ (∀ i j, i < j → j < n → ¬ SAME5 (W i) (W j)) ∧ TXQ m len nc ρ W w43 w44 n n) ∨ (¬ ok ∧ ∃ W, FSTW ρ (W 0) ∧ (∀ i j, i < j → j < 4000 → ¬ SAME5 (W i) (W j)) ∧ MNX m len nc ρ W)
theorem c_exploreX {N m : Nat} {len : Nat → Nat} {nc : Nat → Nat → Nat} {ρ μ σ : zS} (pc : PC m len nc ρ μ) (e : ∀ q, 4 ≤ q → q ≤ 16 → σ q = ρ q) : zp (zf_Space_explore N σ (-1)) (fun r => (r.1 = 0 ∨ r.1 = 1) ∧ FNX m len nc ρ (r.1 = 1) (r.2 41 6) (row5 r.2) (r.2 43) (r.2 44) ∧ (∀ q, (q < 36 ∨ 45 < q) → r.2 q = σ q)) := by
  unfold zf_Space_explore
  refine zp_bind (zp_mono c_fill45 fun r1 h1 => zp_bind (zp_mono c_setFirst fun r2 h2 => ?_))
  obtain ⟨f1, z1⟩ := h1
  obtain ⟨f2, fs⟩ := h2
  have p2 : ∀ q, 4 ≤ q → q ≤ 16 → r2 q = ρ q := fun q a b => by rw [f2 q (by omega), f1 q (by omega), zu_other (by omega)]; exact e q a b
  have z45 : ∀ p, p < 8192 → r2 45 p = 0 := fun p hp => by rw [f2 45 (by decide)]; exact z1 p hp
  have ff : ∀ q, (q < 36 ∨ 45 < q) → r2 q = σ q := fun q hq => by rw [f2 q (by omega), f1 q (by omega), zu_other (by omega)]
  have fs' : FSTW ρ (r2 40) := by
    unfold FSTW hw0 at *
    have g : ∀ q, 4 ≤ q → q ≤ 16 → r1 q = ρ q := fun q a b => by rw [f1 q (by omega), zu_other (by omega)]; exact e q a b
    rw [g 4 (by decide) (by decide), g 5 (by decide) (by decide), g 6 (by decide) (by decide)] at fs
    exact fs
  have gs : GST ρ 0 (fun _ _ => 0) r2 := ⟨p2, ⟨by omega, by rw [f2 41 (by decide), f1 41 (by decide), zx_up_same, zu_eq]; rfl, fun p hp => Or.inl (z45 p hp), fun s hs => absurd hs (Nat.not_lt_zero _), fun p q hp _ np => absurd (z45 p hp) np⟩, fun j hj => absurd hj (Nat.not_lt_zero _), fun i j _ hj => absurd hj (Nat.not_lt_zero _)⟩
  refine zp_bind (zp_mono (c_noteG gs) fun r3 h3 => ?_)
  rcases h3 with ⟨_, j, hj, _⟩ | ⟨_, ⟨_, e1, gs1, fr, _⟩ | ⟨n4, _⟩⟩
  · exact absurd hj (Nat.not_lt_zero _)
  · rw [e1]
    have W0 : (fun j => if j = 0 then r2 40 else (fun _ _ => (0 : Int32)) j) 0 = r2 40 := if_pos rfl
    generalize (fun j => if j = 0 then r2 40 else (fun _ _ => (0 : Int32)) j) = W at *
    have tq : TXQ m len nc ρ W (r3.2 43) (r3.2 44) 0 1 := ⟨fun _ _ => 1, fun _ _ => 1, fun _ => 0, fun _ => 0, ⟨rfl, rfl, fun s hs => absurd hs (Nat.not_lt_zero _), fun s hs => absurd hs (Nat.not_lt_zero _)⟩, ⟨fun s hs => absurd hs (Nat.not_lt_zero _), fun s hs => absurd hs (Nat.not_lt_zero _)⟩, fun j a b => absurd b (by omega), fun s t hs => absurd hs (Nat.not_lt_zero _)⟩
    refine zp_mono (c_loopX (N := N) pc N 0 r3.2 1 W (by omega) gs1 tq) fun r hr => ?_
    have fin : ∀ q, (q < 36 ∨ 45 < q) → r.2 q = σ q := fun q hq => (hr.2 q hq).trans ((fr q (by omega) (by omega) (by omega) (by omega)).trans (ff q hq))
    rcases hr.1 with ⟨e, n, W', w0, gs', tr⟩ | ⟨e, W', w0, gs', mn⟩
    · have pos : 0 < n := by
        obtain ⟨M, _, _, _, ⟨m0, mT, _⟩, _⟩ := tr
        by_cases c : n = 0
        · subst c; omega
        · omega
      refine ⟨Or.inr e, Or.inl ⟨e, n, W', gs'.2.2.1, gs'.2.1.1, pos, gs'.2.1.2.1, by rw [w0, W0]; exact fs', gs'.2.2.2, tr⟩, fin⟩
    · exact ⟨Or.inl e, Or.inr ⟨by rw [e]; decide, W', by rw [w0, W0]; exact fs', gs'.2.2.2, mn⟩, fin⟩
  · omega
theorem m_runX {N m c0 : Nat} {len : Nat → Nat} {nc : Nat → Nat → Nat} {ρ μ : zS} {ok : Prop} {sz : Int32} {R : Nat → Nat → Int32} {w43 w44 : Nat → Int32} (h21 : ¬ μ 82 21 = 0) (pc : PC m len nc ρ μ) (fl : FLV ρ μ) (e40 : ρ 4 0 = Int32.ofNat c0) (e15 : μ 82 15 = Int32.ofNat c0) (c6 : c0 ≤ 6) (sta : STA m len ρ) (fn : FNX m len nc ρ ok sz R w43 w44) : zp (zf_M_run N μ) (fun s => (ok → s.1 = sz ∧ s.2 82 53 = 1 ∧ s.2 82 54 = sz ∧ ∃ n P XQ, n ≤ 4000 ∧ sz = Int32.ofNat n ∧ WAYS m P XQ w43 n ∧ ∀ j, j < n → ST m len nc ρ (R j) (row40 s.2 j) ∧ KND m (w44 j) (row40 s.2 j) (s.2 113 j) ∧ (0 < j → s.2 111 j = Int32.ofNat (P j) ∧ s.2 112 j = Int32.ofNat (XQ j)) ∧ (w44 j = 1 → ∀ t, t < m → NMV ρ (row40 s.2 j) t)) ∧ (¬ ok → s.1 = -103 ∧ s.2 82 53 = 0)) := by
  have m4 := pc.1.1
  unfold zf_M_run
  refine zp_ite (fun _ => zp_bind (zp_mono (m_forget (b := 0) (by omega)) fun r2 h2 => ?_)) fun q => absurd h21 (fun n => q n)
  obtain ⟨rb, f2, g2⟩ := h2
  refine m_37 (μ := zx_up r2 82 60 0) (fun ν fr => ?_) N _ 0 fun _ _ => rfl
  have q82 : ∀ i, i ≠ 0 → i ≠ 53 → i ≠ 62 → i ≠ 51 → i ≠ 52 → i ≠ 60 → ν 82 i = μ 82 i := fun i a b c d e f => by
    rw [fr 82 (by decide), zx_up_same, zu_ne f, g2 i d e, zx_up_same, zu_ne c, zx_up_same, zu_ne b, zx_up_same, zu_ne a]
  have qq : ∀ q, q ≠ 82 → q ≠ 109 → q ≠ 114 → ν q = μ q := fun q a b c => by
    rw [fr q c, zu_other a, f2 q a b, zu_other a, zu_other a, zu_other a]
  have pc1 : PC m len nc ρ ν := pc.q (fun q hq => qq q (by omega) (by omega) (by omega)) (q82 17 (by decide) (by decide) (by decide) (by decide) (by decide) (by decide))
  have fl1 : FLV ρ ν := fl.of rfl rfl (qq 89 (by decide) (by decide) (by decide))
  have e151 : ν 82 15 = Int32.ofNat c0 := (q82 15 (by decide) (by decide) (by decide) (by decide) (by decide) (by decide)).trans e15
  have rb1 : RTB 0 0 ν := rb.of (fun q hq => by rw [fr q (by omega), zu_other (by omega)]) ⟨by rw [fr 82 (by decide), zx_up_same, zu_ne (by decide)], by rw [fr 82 (by decide), zx_up_same, zu_ne (by decide)]⟩
  have z53 : ν 82 53 = 0 := by rw [fr 82 (by decide), zx_up_same, zu_ne (by decide), g2 53 (by decide) (by decide), zx_up_same, zu_ne (by decide), zx_up_same, zu_eq]
  have go : ∀ (W V : Nat → Nat → Int32) (P XQ : Nat → Nat) {Q : Int32 × zS → Prop}, FSTW ρ (W 0) → (∀ ν1, RGX m len nc ρ W V P XQ 0 1 ν1 → zp (zb_M_run_68 N N ν1 0) Q) → zp ((zf_M_firstState N ν).bind fun r4 => (zf_M_put N r4).bind fun r5 => zb_M_run_68 N N r5.2 0) Q := by
    intro W V P XQ Q fw k
    refine zp_bind (zp_mono (m_first pc1 fl1 e40 e151 c6 sta fw) fun r4 h4 => ?_)
    obtain ⟨f4, st⟩ := h4
    have pc4 := pc1.f f4
    have rb4 : RTB 0 0 r4 := rb1.of (fun q hq => f4 q (by omega)) ⟨by rw [f4 82 (by decide)], by rw [f4 82 (by decide)]⟩
    refine zp_bind (zp_mono (m_put rb4 (st.byte pc4)) fun r5 h5 => k r5.2 ?_)
    rcases h5 with ⟨s, _, hs, _⟩ | ⟨_, ⟨_, _, rn⟩ | ⟨nn, _⟩⟩
    · exact absurd hs (by omega)
    · obtain ⟨rb5, rnew, _, f5, g5⟩ := rn
      refine ⟨pc4.q (fun q hq => f5 q (by omega) (by omega) (by omega) (by omega)) (g5 17 (by decide)), rb5, fun j hj => ?_, ?_, fun j a b => absurd b (by omega), fun s hs => absurd hs (Nat.not_lt_zero _)⟩
      · have j0 : j = 0 := by omega
        subst j0
        exact st.congr m4 (fun _ _ => rfl) rnew
      · rw [g5 53 (by decide), f4 82 (by decide)]
        exact z53
    · omega
  rcases fn with ⟨hok, n, W, same, n4, pos, e, fw, dis, M, V, P, XQ, ⟨m0, mT, mS, mB⟩, ⟨v0, v4⟩, wy, ms⟩ | ⟨hno, W, fw, dis, S, T, x43, x44, v, S4, Tm, ⟨M, V, P, XQ, ⟨m0, mT, mS, mB⟩, ⟨v0, vT, v4⟩, wy, ms⟩, can, w', mv, new⟩
  · refine go W V P XQ fw fun ν1 rg => ?_
    refine zp_mono (m_doneX (N := N) n4 dis mT mS mB (fun s t hs ht => (ms s t hs ht).2) (by omega) v0 N 0 ν1 (by omega) (by rw [m0]; exact rg)) fun r hr => ⟨fun _ => ?_, fun q => absurd hok q⟩
    obtain ⟨r1, r2, r3, r4⟩ := hr
    refine ⟨by rw [r1, e], r2, by rw [r3, e], n, P, XQ, n4, e, wy, fun j hj => ?_⟩
    obtain ⟨a1, a2, a3⟩ := r4 j hj
    refine ⟨a1.congr m4 (same j hj) (fun _ _ => rfl), by rw [v4 j hj]; exact a2, a3, fun o t ht => ?_⟩
    rw [v4 j hj] at o
    exact CANV.no (vl_all j (fun t ht => (ms j t hj ht).2.2) o t ht) a1 m4 ht
  · refine go W V P XQ fw fun ν1 rg => ?_
    exact zp_mono (m_manyX (N := N) dis Tm mT mS mB (fun s t k => (ms s t k).2) (by omega) v0 can mv new N 0 ν1 (by omega) (by rw [m0]; exact rg)) fun r hr => ⟨fun q => absurd q hno, fun _ => hr⟩
