-- both answer alike
set_option maxRecDepth 2000
def FDX (σ : zS) : Prop := ∃ (ρ : zS) (m : Nat) (len : Nat → Nat) (nc : Nat → Nat → Nat) (c0 : Nat), (∀ q, 4 ≤ q → q ≤ 16 → σ q = ρ q) ∧ PC m len nc ρ σ ∧ (ρ 4 0 = Int32.ofNat c0 ∧ σ 82 15 = Int32.ofNat c0 ∧ c0 ≤ 6) ∧ STA m len ρ ∧ FLV ρ σ ∧ FNX m len nc ρ (¬ σ 2 15 = 0) (σ 41 6) (row5 σ) (σ 43) (σ 44)
def BTX (σ : zS) : Prop := ∃ (ρ : zS) (m : Nat) (len : Nat → Nat) (nc : Nat → Nat → Nat) (n : Nat) (P XQ : Nat → Nat), (∀ q, 4 ≤ q → q ≤ 16 → σ q = ρ q) ∧ PC m len nc ρ σ ∧ n ≤ 4000 ∧ σ 41 6 = Int32.ofNat n ∧ σ 82 54 = Int32.ofNat n ∧ WAYS m P XQ (σ 43) n ∧ ∀ j, j < n → ST m len nc ρ (row5 σ j) (row40 σ j) ∧ KND m (σ 44 j) (row40 σ j) (σ 113 j) ∧ (0 < j → σ 111 j = Int32.ofNat (P j) ∧ σ 112 j = Int32.ofNat (XQ j)) ∧ (σ 44 j = 1 → ∀ t, t < m → NMV ρ (row40 σ j) t)
def JSX (σ : zS) : Prop := (σ 2 13 = 1 → ¬ σ 2 14 = 0 → FDX σ) ∧ ((σ 2 15 = 0 ∧ σ 82 53 = 0) ∨ (σ 2 13 = 1 ∧ σ 2 15 = 1 ∧ σ 82 53 = 1 ∧ BTX σ))
def EQX (σ : zS) (τ : zT) : Prop := EQR σ τ ∧ JSX σ
theorem TXQ.old {m S n : Nat} {len : Nat → Nat} {nc : Nat → Nat → Nat} {ρ : zS} {W : Nat → Nat → Int32} {w43 w44 : Nat → Int32} (h : TXQ m len nc ρ W w43 w44 S n) : TRQ m len nc ρ W S n := by
  obtain ⟨M, V, P, Q, ⟨m0, mT, mS, mB⟩, _, _, ms⟩ := h
  refine ⟨M, m0, mT, mS, mB, fun s t hs ht => ?_⟩
  obtain ⟨k1, k2, k3⟩ := ms s t hs ht
  refine ⟨k1, k2, ?_⟩
  rcases k3 with ⟨a, b, _⟩ | ⟨a, _, j, mv, c | ⟨c, d, _⟩⟩
  · exact Or.inl ⟨a, b⟩
  · exact Or.inr ⟨a, j, mv, Or.inl c⟩
  · exact Or.inr ⟨a, j, mv, Or.inr ⟨c, d⟩⟩
theorem MNX.old {m : Nat} {len : Nat → Nat} {nc : Nat → Nat → Nat} {ρ : zS} {W : Nat → Nat → Int32} (h : MNX m len nc ρ W) : MNY m len nc ρ W := by
  obtain ⟨S, T, w43, w44, v, S4, Tm, ⟨M, V, P, Q, ⟨m0, mT, mS, mB⟩, _, _, ms⟩, can, new⟩ := h
  refine ⟨S, T, S4, Tm, ⟨M, m0, mT, mS, mB, fun s t k => ?_⟩, can, new⟩
  obtain ⟨k1, k2, k3⟩ := ms s t k
  refine ⟨k1, k2, ?_⟩
  rcases k3 with ⟨a, b, _⟩ | ⟨a, _, j, mv, c | ⟨c, d, _⟩⟩
  · exact Or.inl ⟨a, b⟩
  · exact Or.inr ⟨a, j, mv, Or.inl c⟩
  · exact Or.inr ⟨a, j, mv, Or.inr ⟨c, d⟩⟩
theorem FDX.fdn {σ : zS} (h : FDX σ) : FDN σ := by
  obtain ⟨ρ, m, len, nc, c0, h1, h2, h3, h6, h7, h8⟩ := h
  refine ⟨ρ, m, len, nc, c0, h1, h2, h3, h6, h7, ?_⟩
  rcases h8 with ⟨k, n, W, _, a, b, c, d, e, x⟩ | ⟨k, W, a, b, x⟩
  · exact Or.inl ⟨k, n, W, a, b, c, d, e, x.old⟩
  · exact Or.inr ⟨k, W, a, b, x.old⟩
theorem FDX.of {σ r : zS} (h : FDX σ) (e : ∀ q, (4 ≤ q ∧ q ≤ 16) ∨ (41 ≤ q ∧ q ≤ 44) ∨ (89 ≤ q ∧ q ≤ 101) → r q = σ q) (e15 : r 2 15 = σ 2 15) (e82 : r 82 15 = σ 82 15 ∧ r 82 17 = σ 82 17) : FDX r := by
  obtain ⟨ρ, m, len, nc, c0, h1, h2, ⟨h3, h4, h5⟩, h6, h7, h8⟩ := h
  have r5 : row5 r = row5 σ := by
    funext j
    unfold row5
    rw [e 42 (by decide)]
  refine ⟨ρ, m, len, nc, c0, fun q a b => (e q (by omega)).trans (h1 q a b), h2.q (fun q hq => e q (by omega)) e82.2, ⟨h3, e82.1.trans h4, h5⟩, h6, h7.of rfl rfl (e 89 (by decide)), ?_⟩
  rw [e15, e 41 (by decide), e 43 (by decide), e 44 (by decide), r5]
  exact h8
theorem NMV.congr {ρ : zS} {x x' : Nat → Int32} {t m : Nat} (h : NMV ρ x t) (m4 : m ≤ 4) (ht : t < m) (e : ∀ i, i < 40 → x' i = x i) : NMV ρ x' t := fun z l hz a b c d hl f => by
  rw [e _ (by omega)] at a b ⊢
  exact h z l hz a b c d hl f
theorem BTX.of {σ r : zS} (h : BTX σ) (e : ∀ q, (4 ≤ q ∧ q ≤ 16) ∨ (41 ≤ q ∧ q ≤ 44) ∨ (89 ≤ q ∧ q ≤ 101) → r q = σ q) (e82 : r 82 17 = σ 82 17 ∧ r 82 54 = σ 82 54) (e108 : (∀ i, i < 160000 → r 108 i = σ 108 i) ∧ ∀ q, 111 ≤ q → q ≤ 113 → r q = σ q) : BTX r := by
  obtain ⟨ρ, m, len, nc, n, P, XQ, h1, h2, h3, h4, h5, h7, h6⟩ := h
  have m4 := h2.1.1
  refine ⟨ρ, m, len, nc, n, P, XQ, fun q a b => (e q (by omega)).trans (h1 q a b), h2.q (fun q hq => e q (by omega)) e82.1, h3, by rw [e 41 (by decide)]; exact h4, e82.2.trans h5, by rw [e 43 (by decide)]; exact h7, fun j hj => ?_⟩
  obtain ⟨a1, a2, a3, a4⟩ := h6 j hj
  have r40 : ∀ i, i < 40 → row40 r j i = row40 σ j i := fun i hi => e108.1 (40 * j + i) (by omega)
  refine ⟨a1.congr m4 (fun i hi => ?_) r40, ?_, ?_, ?_⟩
  · unfold row5
    rw [e 42 (by decide)]
  · rw [e 44 (by decide), e108.2 113 (by decide) (by decide)]
    exact a2.congr m4 r40
  · rw [e108.2 111 (by decide) (by decide), e108.2 112 (by decide) (by decide)]
    exact a3
  · rw [e 44 (by decide)]
    exact fun o t ht => (a4 o t ht).congr m4 ht r40
theorem JSX.of {σ r : zS} (h : JSX σ) (e : ∀ q, (4 ≤ q ∧ q ≤ 16) ∨ (41 ≤ q ∧ q ≤ 44) ∨ (89 ≤ q ∧ q ≤ 101) → r q = σ q) (e2 : r 2 13 = σ 2 13 ∧ r 2 14 = σ 2 14 ∧ r 2 15 = σ 2 15) (e82 : r 82 15 = σ 82 15 ∧ r 82 17 = σ 82 17 ∧ r 82 53 = σ 82 53 ∧ r 82 54 = σ 82 54) (e108 : (∀ i, i < 160000 → r 108 i = σ 108 i) ∧ ∀ q, 111 ≤ q → q ≤ 113 → r q = σ q) : JSX r := by
  refine ⟨fun a b => ?_, ?_⟩
  · rw [e2.1] at a
    rw [e2.2.1] at b
    exact (h.1 a b).of e e2.2.2 ⟨e82.1, e82.2.1⟩
  · rw [e2.1, e2.2.2, e82.2.2.1]
    rcases h.2 with k | ⟨k1, k2, k3, k4⟩
    · exact Or.inl k
    · exact Or.inr ⟨k1, k2, k3, k4.of e ⟨e82.2.1, e82.2.2.2⟩ e108⟩
theorem EQX.x {σ r : zS} {τ : zT} (h : EQX σ τ) (f : FX σ r ∧ FE σ r) (j : ∀ q, 82 ≤ q → r q = σ q) : EQX r τ := by
  have k82 := j 82 (by decide)
  refine ⟨h.1.x f j, h.2.of (fun q hq => ?_) ⟨f.1.2 13 (by decide) (by decide) (by decide), f.2.2.1, f.2.2.2⟩ ⟨by rw [k82], by rw [k82], by rw [k82], by rw [k82]⟩ ⟨fun i _ => by rw [j 108 (by decide)], fun q a b => j q (by omega)⟩⟩
  rcases hq with k | k | k
  · exact f.1.1 q (by omega) (by omega)
  · exact f.2.1 q (by omega) (by omega)
  · exact j q (by omega)
theorem EQX.m {σ r : zS} {τ : zT} (h : EQX σ τ) (f : FM σ r ∧ FH σ r) : EQX r τ := ⟨h.1.m f.1, h.2.of (fun q hq => f.1.1 q (by omega) (by omega)) ⟨by rw [f.1.1 2 (by decide) (by decide)], by rw [f.1.1 2 (by decide) (by decide)], by rw [f.1.1 2 (by decide) (by decide)]⟩ ⟨f.1.2 15 (by decide) (by decide), f.1.2 17 (by decide) (by decide), f.2.2.2.1, f.2.2.2.2.1⟩ ⟨f.2.1, fun q a b => f.2.2.1 q a (by omega)⟩⟩
theorem EQX.ended {σ r ρ : zS} {τ : zT} {x : Int32} (h : EQX σ τ) (hr : ρ = zx_up σ 2 11 x ∨ ρ = σ) (f : (∀ q, q ≠ 82 → r q = ρ q) ∧ (∀ i, i ≠ 0 → i ≠ 2 → r 82 i = ρ 82 i)) : EQX r τ := by
  have e : ∀ q, q ≠ 2 → ρ q = σ q := fun q a => by
    rcases hr with e | e
    · rw [e, zu_other a]
    · rw [e]
  have e2 : ∀ i, i ≠ 11 → r 2 i = σ 2 i := fun i hi => by
    rw [f.1 2 (by decide)]
    rcases hr with e | e
    · rw [e, zx_up_same, zu_ne hi]
    · rw [e]
  have e82 : ∀ i, i ≠ 0 → i ≠ 2 → r 82 i = σ 82 i := fun i a b => by rw [f.2 i a b, e 82 (by decide)]
  exact ⟨h.1.ended hr f, h.2.of (fun q hq => (f.1 q (by omega)).trans (e q (by omega))) ⟨e2 13 (by decide), e2 14 (by decide), e2 15 (by decide)⟩ ⟨e82 15 (by decide) (by decide), e82 17 (by decide) (by decide), e82 53 (by decide) (by decide), e82 54 (by decide) (by decide)⟩ ⟨fun i _ => by rw [f.1 108 (by decide), e 108 (by decide)], fun q a b => (f.1 q (by omega)).trans (e q (by omega))⟩⟩
theorem EQX.feed {σ ρ r : zS} {τ υ : zT} {t n : Nat} {f : Nat → Int32} (h : EQX σ τ) (u1 : υ 1 = τ 1) (a : (∀ q, q ≠ 2 → q ≠ 3 → ρ q = σ q) ∧ (∀ i, i ≠ 11 → ρ 2 i = σ 2 i) ∧ tape (σ 3) (ρ 3) t n f) (b : (∀ q, q ≠ 82 → q ≠ 83 → r q = ρ q) ∧ (∀ i, i ≠ 0 → i ≠ 2 → r 82 i = ρ 82 i) ∧ tape (ρ 83) (r 83) t n f) (hb : ∀ i, -128 ≤ f i ∧ f i ≤ 127) : EQX r υ := by
  have e2 : ∀ i, i ≠ 11 → r 2 i = σ 2 i := fun i hi => by rw [b.1 2 (by decide) (by decide), a.2.1 i hi]
  have e82 : ∀ i, i ≠ 0 → i ≠ 2 → r 82 i = σ 82 i := fun i x y => by rw [b.2.1 i x y, a.1 82 (by decide) (by decide)]
  exact ⟨h.1.feed u1 a b hb, h.2.of (fun q hq => (b.1 q (by omega) (by omega)).trans (a.1 q (by omega) (by omega))) ⟨e2 13 (by decide), e2 14 (by decide), e2 15 (by decide)⟩ ⟨e82 15 (by decide) (by decide), e82 17 (by decide) (by decide), e82 53 (by decide) (by decide), e82 54 (by decide) (by decide)⟩ ⟨fun i _ => by rw [b.1 108 (by decide) (by decide), a.1 108 (by decide) (by decide)], fun q x y => (b.1 q (by omega) (by omega)).trans (a.1 q (by omega) (by omega))⟩⟩
theorem EQX.full {σ r : zS} {τ : zT} (h : EQX σ τ) (b : (∀ q, q ≠ 82 → q ≠ 83 → r q = σ q) ∧ (∀ i, i ≠ 0 → i ≠ 2 → r 82 i = σ 82 i) ∧ r 83 = σ 83) : EQX r τ :=
  ⟨h.1.full b, h.2.of (fun q hq => b.1 q (by omega) (by omega)) ⟨by rw [b.1 2 (by decide) (by decide)], by rw [b.1 2 (by decide) (by decide)], by rw [b.1 2 (by decide) (by decide)]⟩ ⟨b.2.1 15 (by decide) (by decide), b.2.1 17 (by decide) (by decide), b.2.1 53 (by decide) (by decide), b.2.1 54 (by decide) (by decide)⟩ ⟨fun i _ => by rw [b.1 108 (by decide) (by decide)], fun q x y => b.1 q (by omega) (by omega)⟩⟩
theorem EQX.read {σ ρ r : zS} {τ υ : zT} (h : EQX σ τ) (f : FRd σ ρ ∧ GRd τ υ) (hi : ∀ q, 82 ≤ q → ρ q = σ q) (lo : ∀ q, q < 82 → r q = ρ q) (n : FMr ρ r) (l : LO ρ r) (z : NWC σ ρ ∧ ((ρ 2 13 = 1 → ∀ b, b < 4 → SPB ρ b) ∧ ρ 2 14 = 0 ∧ ρ 2 15 = 0)) (fl : ((ρ 2 13 = 1 → WKA ρ r ∧ JTH ρ) ∧ (ρ 2 13 = 1 → FLV ρ r) ∧ (ρ 2 13 = 1 → NSF ρ)) ∧ r 82 53 = 0) : EQX r υ := by
  refine ⟨h.1.read f hi lo n l ⟨z.1, z.2.1, z.2.2.1⟩ fl.1, fun _ b => ?_, Or.inl ⟨?_, fl.2⟩⟩
  · rw [lo 2 (by decide)] at b
    exact absurd z.2.2.1 b
  · rw [lo 2 (by decide)]
    exact z.2.2.2
theorem c_runX {N : Nat} {σ : zS} {τ : zT} (li : LI σ) (ev : EQX σ τ) : zp (zf_X_run N σ) (fun r => (σ 2 13 = 0 ∧ r.2 = σ) ∨ (JR r.2 ∧ FDX r.2 ∧ (r.2 2 13 = 1 ∧ (r.2 2 15 = 0 ∨ r.2 2 15 = 1)) ∧ ¬ r.2 82 21 = 0)) := by
  unfold zf_X_run
  rcases ev.1.1.1.2.2.2 with ⟨a, b⟩ | ⟨a, b, pr⟩
  · exact zp_ite (fun q => absurd a q) fun _ => zp_some (Or.inl ⟨a, rfl⟩)
  have ld : ¬ σ 2 13 = 0 := by rw [a]; decide
  obtain ⟨sp, wk, fv, ns, fd⟩ := ev.1.2 a
  have fin : ∀ r : zS, JR r → FDX r → (r 2 13 = 1 ∧ (r 2 15 = 0 ∨ r 2 15 = 1)) → ¬ r 82 21 = 0 → zp (zb_X_run_57 N r) (fun r => (σ 2 13 = 0 ∧ r.2 = σ) ∨ (JR r.2 ∧ FDX r.2 ∧ (r.2 2 13 = 1 ∧ (r.2 2 15 = 0 ∨ r.2 2 15 = 1)) ∧ ¬ r.2 82 21 = 0)) := fun r j f x e => by
    unfold zb_X_run_57
    exact zp_ite (fun q => zp_some (Or.inr ⟨j, f, x, e⟩)) fun q => zp_some (Or.inr ⟨j, f, x, e⟩)
  refine zp_ite (fun _ => zp_ite (fun t14 => ?_) fun t14 => ?_) fun q => absurd ld q
  · have e : ∀ q, q ≠ 2 → (zx_up σ 2 16 (-1)) q = σ q := fun q hq => zu_other hq
    have e2 : ∀ i, i ≠ 16 → (zx_up σ 2 16 (-1)) 2 i = σ 2 i := fun i hi => by rw [zx_up_same, zu_ne hi]
    have k82 : (zx_up σ 2 16 (-1)) 82 = σ 82 := e 82 (by decide)
    have k15 : σ 2 15 = 0 ∨ σ 2 15 = 1 := by
      rcases ev.2.2 with k | k
      · exact Or.inl k.1
      · exact Or.inr k.2.1
    exact fin _ (ev.1.2.of (fun q hq => e q (by omega)) ⟨e2 13 (by decide), e2 14 (by decide), e2 15 (by decide)⟩ ⟨by rw [k82], by rw [k82]⟩) ((ev.2.1 a t14).of (fun q hq => e q (by omega)) (e2 15 (by decide)) ⟨by rw [k82], by rw [k82]⟩) ⟨(e2 13 (by decide)).trans a, by rw [e2 15 (by decide)]; exact k15⟩ (by rw [k82, b]; decide)
  · have pg : PG σ := li.gm.pg (by rw [b]; decide)
    obtain ⟨m, len, nc, pc, c0, c6, e40, e15⟩ := PC.mk pr pg wk.1 wk.2 ns
    have sta := STA.mk pc wk.2 sp
    refine zp_bind (zp_mono (c_exploreX (σ := zx_up (zx_up σ 2 16 (-1)) 2 14 1) pc (fun q a b => by rw [zu_other (by omega), zu_other (by omega)])) fun r4 h4 => ?_)
    obtain ⟨ok01, fn, fr⟩ := h4
    have new : ∀ r : zS, (∀ q, (q < 36 ∨ (41 ≤ q ∧ q ≤ 44) ∨ 63 < q) → r q = (zx_up r4.2 2 15 r4.1) q) → JR r ∧ FDX r ∧ (r 2 13 = 1 ∧ (r 2 15 = 0 ∨ r 2 15 = 1)) ∧ ¬ r 82 21 = 0 := fun r f => by
      have f2 : r 2 = (zx_up r4.2 2 15 r4.1) 2 := f 2 (by decide)
      have g : ∀ q, q ≠ 2 → (q < 36 ∨ 63 < q) → r q = σ q := fun q n hq => by
        rw [f q (by omega), zu_other n, fr q (by omega), zu_other n, zu_other n]
      have g41 : r 41 = r4.2 41 := by rw [f 41 (by decide), zu_other (by decide)]
      have g42 : row5 r = row5 r4.2 := by
        funext j
        unfold row5
        rw [f 42 (by decide), zu_other (by decide)]
      have g43 : r 43 = r4.2 43 := by rw [f 43 (by decide), zu_other (by decide)]
      have g44 : r 44 = r4.2 44 := by rw [f 44 (by decide), zu_other (by decide)]
      have g15 : r 2 15 = r4.1 := by rw [f2, zx_up_same, zu_eq]
      have g13 : r 2 13 = 1 := by
        rw [f2, zx_up_same, zu_ne (by decide), fr 2 (by decide), zx_up_same, zu_ne (by decide), zx_up_same, zu_ne (by decide)]
        exact a
      have k82 : r 82 = σ 82 := g 82 (by decide) (by decide)
      have fd' : FDX r := by
        refine ⟨σ, m, len, nc, c0, fun q a b => g q (by omega) (by omega), pc.q (fun q hq => g q (by omega) (by omega)) (by rw [k82]), ⟨e40, by rw [k82]; exact e15, c6⟩, sta, fv.of rfl rfl (g 89 (by decide) (by decide)), ?_⟩
        rw [g15, g41, g42, g43, g44]
        rcases fn with ⟨k, x⟩ | ⟨k, x⟩
        · exact Or.inl ⟨by rw [k]; decide, x⟩
        · exact Or.inr ⟨fun n => n (ok01.resolve_right k), x⟩
      exact ⟨fun _ => ⟨fun i hi => (sp i hi).of fun q hq => g q (by omega) (by omega), ⟨wk.1.f57 (F57.of fun q hq => g q (by omega) (by omega)) (fun q x y => g q (by omega) (by omega)), wk.2.of fun q hq => g q (by omega) (by omega)⟩, fv.of (by rw [g 4 (by decide) (by decide)]) (by rw [g 4 (by decide) (by decide)]) (g 89 (by decide) (by decide)), ns.of fun q x y => g q (by omega) (by omega), fun _ => fd'.fdn⟩, fd', ⟨g13, by rw [g15]; exact ok01⟩, by rw [k82, b]; decide⟩
    refine zp_chk fun _ => zp_ite (fun _ => ?_) fun _ => zp_bind (zp_mono (zp_and (xg_f_Findings_gather (σ0 := zx_up r4.2 2 15 r4.1) (fun _ _ => rfl)) (xi_f_Findings_gather (σ0 := zx_up r4.2 2 15 r4.1) (fun _ _ _ => rfl))) fun r7 h7 => ?_)
    · obtain ⟨x, y, z, w⟩ := new _ fun _ _ => rfl
      exact fin _ x y z w
    · obtain ⟨x, y, z, w⟩ := new r7 fun q hq => by
        by_cases c : 41 ≤ q ∧ q ≤ 44
        · exact h7.2 q (by omega) (by omega)
        · exact h7.1 q (by omega)
      exact fin _ x y z w
theorem p_runX {N : Nat} {σ : zS} {τ : zT} (li : LI σ) (ev : EQX σ τ) : zp (zf_X_run N σ) (fun r => JR r.2 ∧ zp (zf_M_run N r.2) (fun s => FM r.2 s.2 → JSX s.2)) := by
  refine zp_mono (c_runX li ev) fun r h => ?_
  rcases h with ⟨a, e2⟩ | ⟨jr, fs, ⟨e13, e15⟩, h21⟩
  · rw [e2]
    refine ⟨ev.1.2, ?_⟩
    rcases ev.1.1.1.2.2.2 with ⟨_, b⟩ | ⟨a', _⟩
    · unfold zf_M_run
      refine zp_ite (fun q => absurd b q) fun _ => zp_some fun _ => ?_
      dsimp only
      have g : ∀ q, q ≠ 82 → (zx_up σ 82 0 0) q = σ q := fun q hq => zu_other hq
      have g82 : ∀ i, i ≠ 0 → (zx_up σ 82 0 0) 82 i = σ 82 i := fun i hi => by rw [zx_up_same, zu_ne hi]
      exact ev.2.of (fun q hq => g q (by omega)) ⟨by rw [g 2 (by decide)], by rw [g 2 (by decide)], by rw [g 2 (by decide)]⟩ ⟨g82 15 (by decide), g82 17 (by decide), g82 53 (by decide), g82 54 (by decide)⟩ ⟨fun i _ => by rw [g 108 (by decide)], fun q a b => g q (by omega)⟩
    · rw [a] at a'
      exact absurd a' (by decide)
  · refine ⟨jr, ?_⟩
    have fs' := fs
    obtain ⟨ρ, m, len, nc, c0, h1, h2, ⟨h3, h4, h5⟩, h6, h7, h8⟩ := fs
    refine zp_mono (m_runX h21 h2 h7 h3 h4 h5 h6 h8) fun s hs fm => ⟨fun _ _ => fs'.of (fun q hq => fm.1 q (by omega) (by omega)) (by rw [fm.1 2 (by decide) (by decide)]) ⟨fm.2 15 (by decide) (by decide), fm.2 17 (by decide) (by decide)⟩, ?_⟩
    have k2 : s.2 2 = r.2 2 := fm.1 2 (by decide) (by decide)
    rw [k2]
    rcases e15 with z | o
    · exact Or.inl ⟨z, (hs.2 fun q => q z).2⟩
    · obtain ⟨s1, s2, s3, n, P, XQ, n4, en, wy, st⟩ := hs.1 (by rw [o]; decide)
      refine Or.inr ⟨e13, o, s2, ρ, m, len, nc, n, P, XQ, fun q a b => (fm.1 q (by omega) (by omega)).trans (h1 q a b), h2.q (fun q hq => fm.1 q (by omega) (by omega)) (fm.2 17 (by decide) (by decide)), n4, by rw [fm.1 41 (by decide) (by decide)]; exact en, s3.trans en, by rw [fm.1 43 (by decide) (by decide)]; exact wy, fun j hj => ?_⟩
      obtain ⟨a1, a2, a3, a4⟩ := st j hj
      rw [fm.1 44 (by decide) (by decide)]
      refine ⟨a1.congr h2.1.1 (fun i hi => ?_) (fun _ _ => rfl), a2, a3, a4⟩
      unfold row5
      rw [fm.1 42 (by decide) (by decide)]
theorem EQX.run {σ r : zS} {τ : zT} (h : EQR σ τ) (f : FM σ r) (k : FM σ r → JSX r) : EQX r τ := ⟨h.m f, k f⟩
