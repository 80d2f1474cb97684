-- both answer alike
set_option maxRecDepth 2000
def FDY (σ : zS) : Prop := ∃ (ρ : zS) (m : Nat) (len : Nat → Nat) (nc : Nat → Nat → Nat) (c0 : Nat), (∀ q, 4 ≤ q → q ≤ 16 → σ q = ρ q) ∧ PC m len nc ρ σ ∧ (ρ 4 0 = Int32.ofNat c0 ∧ σ 82 15 = Int32.ofNat c0 ∧ c0 ≤ 6) ∧ STA m len ρ ∧ FLV ρ σ ∧ FNX m len nc ρ (¬ σ 2 15 = 0) (σ 41 6) (row5 σ) (σ 43) (σ 44) ∧ PJ σ m len ∧ (¬ σ 2 15 = 0 → ∀ n, n ≤ 4000 → σ 41 6 = Int32.ofNat n → ∀ X : Nat → Nat → Int32, (∀ j, j < n → ST m len nc ρ (row5 σ j) (X j)) → FNG m n ρ (σ 44) X σ)
def BTY (σ : zS) : Prop := ∃ (ρ : zS) (m : Nat) (len : Nat → Nat) (nc : Nat → Nat → Nat) (n : Nat) (P XQ : Nat → Nat), (∀ q, 4 ≤ q → q ≤ 16 → σ q = ρ q) ∧ PC m len nc ρ σ ∧ n ≤ 4000 ∧ σ 41 6 = Int32.ofNat n ∧ σ 82 54 = Int32.ofNat n ∧ WAYS m P XQ (σ 43) n ∧ (FNG m n ρ (σ 44) (row40 σ) σ ∧ LEA (σ 114) 0 (fun j => Int32.ofNat (j + 1)) (fun j => RPA m ρ (row40 σ j)) n ∧ PJ σ m len) ∧ ∀ j, j < n → ST m len nc ρ (row5 σ j) (row40 σ j) ∧ KND m (σ 44 j) (row40 σ j) (σ 113 j) ∧ (0 < j → σ 111 j = Int32.ofNat (P j) ∧ σ 112 j = Int32.ofNat (XQ j)) ∧ (σ 44 j = 1 → ∀ t, t < m → NMV ρ (row40 σ j) t)
def JSY (σ : zS) : Prop := (σ 2 13 = 1 → (SLT σ ∧ FLG σ σ) ∧ (¬ σ 2 14 = 0 → FDY σ)) ∧ ((σ 2 15 = 0 ∧ σ 82 53 = 0) ∨ (σ 2 13 = 1 ∧ σ 2 15 = 1 ∧ σ 82 53 = 1 ∧ BTY σ))
def EQY (σ : zS) (τ : zT) : Prop := EQR σ τ ∧ JSY σ
theorem FDY.fdn {σ : zS} (h : FDY σ) : FDN σ := by
  obtain ⟨ρ, m, len, nc, c0, h1, h2, h3, h6, h7, h8, _⟩ := h
  refine ⟨ρ, m, len, nc, c0, h1, h2, h3, h6, h7, ?_⟩
  rcases h8 with ⟨k, n, W, _, a, b, c, d, e, x⟩ | ⟨k, W, a, b, x⟩
  · exact Or.inl ⟨k, n, W, a, b, c, d, e, x.old⟩
  · exact Or.inr ⟨k, W, a, b, x.old⟩
theorem FNG.cg {m n : Nat} {ρ r : zS} {L : Nat → Int32} {X X' : Nat → Nat → Int32} (h : FNG m n ρ L X r) (m4 : m ≤ 4) (e : ∀ j, j < n → ∀ i, i < 40 → X' j i = X j i) : FNG m n ρ L X' r := by
  obtain ⟨⟨h1, h2, h3, h4⟩, h5⟩ := h
  have g : ∀ j, j < n → ((∀ t, t < m → GON (X' j (15 + 6 * t))) ↔ ∀ t, t < m → GON (X j (15 + 6 * t))) := fun j hj => by
    constructor
    · intro k t ht; rw [← e j hj _ (by omega)]; exact k t ht
    · intro k t ht; rw [e j hj _ (by omega)]; exact k t ht
  refine ⟨⟨?_, ?_, ?_, ?_⟩, h5⟩
  · rw [lst_congr (q := pEnd m L X) n 0 fun j _ hj => ?_]
    · exact h1
    · unfold pEnd; rw [g j (by omega)]
  · rw [lst_congr (q := pStk m L X) n 0 fun j _ hj => ?_]
    · exact h2
    · unfold pStk; rw [g j (by omega)]
  · rw [lst_congr (q := pFai m X) n 0 fun j _ hj => ?_]
    · exact h3
    · constructor
      · rintro ⟨t, ht, k⟩
        exact ⟨t, ht, by rw [← e j (by omega) _ (by omega)]; exact k⟩
      · rintro ⟨t, ht, k⟩
        exact ⟨t, ht, by rw [e j (by omega) _ (by omega)]; exact k⟩
  · exact h4.congr fun j hj p => RPA.congr m4 (e j hj)
theorem FDY.of {σ r : zS} (h : FDY σ) (e : ∀ q, (4 ≤ q ∧ q ≤ 16) ∨ (41 ≤ q ∧ q ≤ 57) ∨ (88 ≤ q ∧ q ≤ 101) → r q = σ q) (e15 : r 2 15 = σ 2 15) (e82 : r 82 15 = σ 82 15 ∧ r 82 17 = σ 82 17) : FDY r := by
  obtain ⟨ρ, m, len, nc, c0, h1, h2, ⟨h3, h4, h5⟩, h6, h7, h8, hj, h9⟩ := h
  have r5 : row5 r = row5 σ := by
    funext j
    unfold row5
    rw [e 42 (by decide)]
  refine ⟨ρ, m, len, nc, c0, fun q a b => (e q (by omega)).trans (h1 q a b), h2.q (fun q hq => e q (by omega)) e82.2, ⟨h3, e82.1.trans h4, h5⟩, h6, h7.of rfl rfl (e 89 (by decide)), ?_, hj.of (fun q hq => e q (by omega)) e82.2, fun a n n4 hn X hX => ?_⟩
  · rw [e15, e 41 (by decide), e 43 (by decide), e 44 (by decide), r5]
    exact h8
  · rw [e15] at a
    rw [e 41 (by decide)] at hn
    rw [r5] at hX
    exact (h9 a n n4 hn X hX).of (fun q x y => e q (by omega)) (e 44 (by decide))
theorem BTY.of {σ r : zS} (h : BTY σ) (e : ∀ q, (4 ≤ q ∧ q ≤ 16) ∨ (41 ≤ q ∧ q ≤ 57) ∨ (88 ≤ q ∧ q ≤ 101) → r q = σ q) (e82 : r 82 17 = σ 82 17 ∧ r 82 54 = σ 82 54) (e108 : (∀ i, i < 160000 → r 108 i = σ 108 i) ∧ ∀ q, 111 ≤ q → q ≤ 114 → r q = σ q) : BTY r := by
  obtain ⟨ρ, m, len, nc, n, P, XQ, h1, h2, h3, h4, h5, h7, ⟨hF, hL, hP⟩, h6⟩ := h
  have m4 := h2.1.1
  have r40 : ∀ j, j < n → ∀ i, i < 40 → row40 r j i = row40 σ j i := fun j hj i hi => e108.1 (40 * j + i) (by omega)
  refine ⟨ρ, m, len, nc, n, P, XQ, fun q a b => (e q (by omega)).trans (h1 q a b), h2.q (fun q hq => e q (by omega)) e82.1, h3, by rw [e 41 (by decide)]; exact h4, e82.2.trans h5, by rw [e 43 (by decide)]; exact h7, ⟨(hF.of (fun q x y => e q (by omega)) (e 44 (by decide))).cg m4 r40, by rw [e108.2 114 (by decide) (by decide)]; exact hL.congr fun j hj p => RPA.congr m4 (r40 j hj), hP.of (fun q hq => e q (by omega)) e82.1⟩, fun j hj => ?_⟩
  obtain ⟨a1, a2, a3, a4⟩ := h6 j hj
  have r40 := r40 j hj
  refine ⟨a1.congr m4 (fun i hi => ?_) r40, ?_, ?_, ?_⟩
  · unfold row5
    rw [e 42 (by decide)]
  · rw [e 44 (by decide), e108.2 113 (by decide) (by decide)]
    exact a2.congr m4 r40
  · rw [e108.2 111 (by decide) (by decide), e108.2 112 (by decide) (by decide)]
    exact a3
  · rw [e 44 (by decide)]
    exact fun o t ht => (a4 o t ht).congr m4 ht r40
theorem JSY.of {σ r : zS} (h : JSY σ) (e : ∀ q, (4 ≤ q ∧ q ≤ 16) ∨ (41 ≤ q ∧ q ≤ 57) ∨ (88 ≤ q ∧ q ≤ 101) → r q = σ q) (e2 : r 2 13 = σ 2 13 ∧ r 2 14 = σ 2 14 ∧ r 2 15 = σ 2 15) (e82 : r 82 15 = σ 82 15 ∧ r 82 17 = σ 82 17 ∧ r 82 53 = σ 82 53 ∧ r 82 54 = σ 82 54) (e108 : (∀ i, i < 160000 → r 108 i = σ 108 i) ∧ ∀ q, 111 ≤ q → q ≤ 114 → r q = σ q) : JSY r := by
  refine ⟨fun a => ?_, ?_⟩
  · rw [e2.1] at a
    obtain ⟨⟨k1, k2⟩, k3⟩ := h.1 a
    refine ⟨⟨k1.of (by rw [e 4 (by decide)]) (e 5 (by decide)) (e 7 (by decide)) (e 8 (by decide)), k2.of (by rw [e 4 (by decide)]) (by rw [e 4 (by decide)]) (e 88 (by decide))⟩, fun b => ?_⟩
    rw [e2.2.1] at b
    exact (k3 b).of e e2.2.2 ⟨e82.1, e82.2.1⟩
  · rw [e2.1, e2.2.2, e82.2.2.1]
    rcases h.2 with k | ⟨k1, k2, k3, k4⟩
    · exact Or.inl k
    · exact Or.inr ⟨k1, k2, k3, k4.of e ⟨e82.2.1, e82.2.2.2⟩ e108⟩
theorem EQY.x {σ r : zS} {τ : zT} (h : EQY σ τ) (f : FX σ r ∧ FE σ r) (j : ∀ q, 82 ≤ q → r q = σ q) : EQY r τ := by
  have k82 := j 82 (by decide)
  refine ⟨h.1.x f j, h.2.of (fun q hq => ?_) ⟨f.1.2 13 (by decide) (by decide) (by decide), f.2.2.1, f.2.2.2⟩ ⟨by rw [k82], by rw [k82], by rw [k82], by rw [k82]⟩ ⟨fun i _ => by rw [j 108 (by decide)], fun q a b => j q (by omega)⟩⟩
  rcases hq with k | k | k
  · exact f.1.1 q (by omega) (by omega)
  · exact f.2.1 q (by omega) (by omega)
  · exact j q (by omega)
theorem EQY.m {σ r : zS} {τ : zT} (h : EQY σ τ) (f : FM σ r ∧ FH σ r) : EQY r τ := ⟨h.1.m f.1, h.2.of (fun q hq => f.1.1 q (by omega) (by omega)) ⟨by rw [f.1.1 2 (by decide) (by decide)], by rw [f.1.1 2 (by decide) (by decide)], by rw [f.1.1 2 (by decide) (by decide)]⟩ ⟨f.1.2 15 (by decide) (by decide), f.1.2 17 (by decide) (by decide), f.2.2.2.1, f.2.2.2.2.1⟩ ⟨f.2.1, fun q a b => f.2.2.1 q a (by omega)⟩⟩
theorem EQY.ended {σ r ρ : zS} {τ : zT} {x : Int32} (h : EQY σ τ) (hr : ρ = zx_up σ 2 11 x ∨ ρ = σ) (f : (∀ q, q ≠ 82 → r q = ρ q) ∧ (∀ i, i ≠ 0 → i ≠ 2 → r 82 i = ρ 82 i)) : EQY r τ := by
  have e : ∀ q, q ≠ 2 → ρ q = σ q := fun q a => by
    rcases hr with e | e
    · rw [e, zu_other a]
    · rw [e]
  have e2 : ∀ i, i ≠ 11 → r 2 i = σ 2 i := fun i hi => by
    rw [f.1 2 (by decide)]
    rcases hr with e | e
    · rw [e, zx_up_same, zu_ne hi]
    · rw [e]
  have e82 : ∀ i, i ≠ 0 → i ≠ 2 → r 82 i = σ 82 i := fun i a b => by rw [f.2 i a b, e 82 (by decide)]
  exact ⟨h.1.ended hr f, h.2.of (fun q hq => (f.1 q (by omega)).trans (e q (by omega))) ⟨e2 13 (by decide), e2 14 (by decide), e2 15 (by decide)⟩ ⟨e82 15 (by decide) (by decide), e82 17 (by decide) (by decide), e82 53 (by decide) (by decide), e82 54 (by decide) (by decide)⟩ ⟨fun i _ => by rw [f.1 108 (by decide), e 108 (by decide)], fun q a b => (f.1 q (by omega)).trans (e q (by omega))⟩⟩
theorem EQY.feed {σ ρ r : zS} {τ υ : zT} {t n : Nat} {f : Nat → Int32} (h : EQY σ τ) (u1 : υ 1 = τ 1) (a : (∀ q, q ≠ 2 → q ≠ 3 → ρ q = σ q) ∧ (∀ i, i ≠ 11 → ρ 2 i = σ 2 i) ∧ tape (σ 3) (ρ 3) t n f) (b : (∀ q, q ≠ 82 → q ≠ 83 → r q = ρ q) ∧ (∀ i, i ≠ 0 → i ≠ 2 → r 82 i = ρ 82 i) ∧ tape (ρ 83) (r 83) t n f) (hb : ∀ i, -128 ≤ f i ∧ f i ≤ 127) : EQY r υ := by
  have e2 : ∀ i, i ≠ 11 → r 2 i = σ 2 i := fun i hi => by rw [b.1 2 (by decide) (by decide), a.2.1 i hi]
  have e82 : ∀ i, i ≠ 0 → i ≠ 2 → r 82 i = σ 82 i := fun i x y => by rw [b.2.1 i x y, a.1 82 (by decide) (by decide)]
  exact ⟨h.1.feed u1 a b hb, h.2.of (fun q hq => (b.1 q (by omega) (by omega)).trans (a.1 q (by omega) (by omega))) ⟨e2 13 (by decide), e2 14 (by decide), e2 15 (by decide)⟩ ⟨e82 15 (by decide) (by decide), e82 17 (by decide) (by decide), e82 53 (by decide) (by decide), e82 54 (by decide) (by decide)⟩ ⟨fun i _ => by rw [b.1 108 (by decide) (by decide), a.1 108 (by decide) (by decide)], fun q x y => (b.1 q (by omega) (by omega)).trans (a.1 q (by omega) (by omega))⟩⟩
theorem EQY.full {σ r : zS} {τ : zT} (h : EQY σ τ) (b : (∀ q, q ≠ 82 → q ≠ 83 → r q = σ q) ∧ (∀ i, i ≠ 0 → i ≠ 2 → r 82 i = σ 82 i) ∧ r 83 = σ 83) : EQY r τ :=
  ⟨h.1.full b, h.2.of (fun q hq => b.1 q (by omega) (by omega)) ⟨by rw [b.1 2 (by decide) (by decide)], by rw [b.1 2 (by decide) (by decide)], by rw [b.1 2 (by decide) (by decide)]⟩ ⟨b.2.1 15 (by decide) (by decide), b.2.1 17 (by decide) (by decide), b.2.1 53 (by decide) (by decide), b.2.1 54 (by decide) (by decide)⟩ ⟨fun i _ => by rw [b.1 108 (by decide) (by decide)], fun q x y => b.1 q (by omega) (by omega)⟩⟩
theorem EQY.read {σ ρ r : zS} {τ υ : zT} (h : EQY σ τ) (f : FRd σ ρ ∧ GRd τ υ) (hi : ∀ q, 82 ≤ q → ρ q = σ q) (lo : ∀ q, q < 82 → r q = ρ q) (n : FMr ρ r) (l : LO ρ r) (z : NWC σ ρ ∧ ((ρ 2 13 = 1 → ∀ b, b < 4 → SPB ρ b) ∧ ρ 2 14 = 0 ∧ ρ 2 15 = 0)) (fl : ((ρ 2 13 = 1 → WKA ρ r ∧ JTH ρ) ∧ (ρ 2 13 = 1 → FLV ρ r) ∧ (ρ 2 13 = 1 → NSF ρ)) ∧ r 82 53 = 0 ∧ (ρ 2 13 = 1 → FLG ρ r ∧ SLT ρ)) : EQY r υ := by
  refine ⟨h.1.read f hi lo n l ⟨z.1, z.2.1, z.2.2.1⟩ fl.1, fun w => ?_, Or.inl ⟨?_, fl.2.1⟩⟩
  · rw [lo 2 (by decide)] at w
    have k := fl.2.2 w
    refine ⟨⟨k.2.of (by rw [lo 4 (by decide)]) (lo 5 (by decide)) (lo 7 (by decide)) (lo 8 (by decide)), k.1.of (by rw [lo 4 (by decide)]) (by rw [lo 4 (by decide)]) rfl⟩, fun b => ?_⟩
    rw [lo 2 (by decide)] at b
    exact absurd z.2.2.1 b
  · rw [lo 2 (by decide)]
    exact z.2.2.2
theorem c_runY {N : Nat} {σ : zS} {τ : zT} (li : LI σ) (ev : EQY σ τ) : zp (zf_X_run N σ) (fun r => (σ 2 13 = 0 ∧ r.2 = σ) ∨ (JR r.2 ∧ (FDY r.2 ∧ SLT r.2 ∧ FLG r.2 r.2) ∧ (r.2 2 13 = 1 ∧ (r.2 2 15 = 0 ∨ r.2 2 15 = 1)) ∧ ¬ r.2 82 21 = 0)) := by
  unfold zf_X_run
  rcases ev.1.1.1.2.2.2 with ⟨a, b⟩ | ⟨a, b, pr⟩
  · exact zp_ite (fun q => absurd a q) fun _ => zp_some (Or.inl ⟨a, rfl⟩)
  have ld : ¬ σ 2 13 = 0 := by rw [a]; decide
  obtain ⟨sp, wk, fv, ns, fd⟩ := ev.1.2 a
  obtain ⟨sf, fdx⟩ := ev.2.1 a
  have fin : ∀ r : zS, JR r → (FDY r ∧ SLT r ∧ FLG r r) → (r 2 13 = 1 ∧ (r 2 15 = 0 ∨ r 2 15 = 1)) → ¬ r 82 21 = 0 → zp (zb_X_run_57 N r) (fun r => (σ 2 13 = 0 ∧ r.2 = σ) ∨ (JR r.2 ∧ (FDY r.2 ∧ SLT r.2 ∧ FLG r.2 r.2) ∧ (r.2 2 13 = 1 ∧ (r.2 2 15 = 0 ∨ r.2 2 15 = 1)) ∧ ¬ r.2 82 21 = 0)) := fun r j f x e => by
    unfold zb_X_run_57
    exact zp_ite (fun q => zp_some (Or.inr ⟨j, f, x, e⟩)) fun q => zp_some (Or.inr ⟨j, f, x, e⟩)
  refine zp_ite (fun _ => zp_ite (fun t14 => ?_) fun t14 => ?_) fun q => absurd ld q
  · have e : ∀ q, q ≠ 2 → (zx_up σ 2 16 (-1)) q = σ q := fun q hq => zu_other hq
    have e2 : ∀ i, i ≠ 16 → (zx_up σ 2 16 (-1)) 2 i = σ 2 i := fun i hi => by rw [zx_up_same, zu_ne hi]
    have k82 : (zx_up σ 2 16 (-1)) 82 = σ 82 := e 82 (by decide)
    have k15 : σ 2 15 = 0 ∨ σ 2 15 = 1 := by
      rcases ev.2.2 with k | k
      · exact Or.inl k.1
      · exact Or.inr k.2.1
    exact fin _ (ev.1.2.of (fun q hq => e q (by omega)) ⟨e2 13 (by decide), e2 14 (by decide), e2 15 (by decide)⟩ ⟨by rw [k82], by rw [k82]⟩) ⟨((fdx t14).of (fun q hq => e q (by omega)) (e2 15 (by decide)) ⟨by rw [k82], by rw [k82]⟩), sf.1.of (by rw [e 4 (by decide)]) (e 5 (by decide)) (e 7 (by decide)) (e 8 (by decide)), sf.2.of (by rw [e 4 (by decide)]) (by rw [e 4 (by decide)]) (e 88 (by decide))⟩ ⟨(e2 13 (by decide)).trans a, by rw [e2 15 (by decide)]; exact k15⟩ (by rw [k82, b]; decide)
  · have pg : PG σ := li.gm.pg (by rw [b]; decide)
    obtain ⟨m, len, nc, pc, c0, c6, e40, e15⟩ := PC.mk pr pg wk.1 wk.2 ns
    have sta := STA.mk pc wk.2 sp
    have pj := PJ.mk pc pr pg ev.1.1.2 sp
    have fld : FLD σ := ⟨sf.1, sf.2, by rw [e40]; exact (zo_le (k := c0) (j := 6) (by omega) (by omega)).mpr c6⟩
    refine zp_bind (zp_mono (c_exploreX (σ := zx_up (zx_up σ 2 16 (-1)) 2 14 1) pc (fun q a b => by rw [zu_other (by omega), zu_other (by omega)])) fun r4 h4 => ?_)
    obtain ⟨ok01, fn, fr⟩ := h4
    have new : ∀ r : zS, (∀ q, (q < 36 ∨ (41 ≤ q ∧ q ≤ 44) ∨ 63 < q) → r q = (zx_up r4.2 2 15 r4.1) q) → (¬ r4.1 = 0 → ∀ n, n ≤ 4000 → r4.2 41 6 = Int32.ofNat n → ∀ X : Nat → Nat → Int32, (∀ j, j < n → ST m len nc σ (row5 r4.2 j) (X j)) → FNG m n σ (r4.2 44) X r) → JR r ∧ (FDY r ∧ SLT r ∧ FLG r r) ∧ (r 2 13 = 1 ∧ (r 2 15 = 0 ∨ r 2 15 = 1)) ∧ ¬ r 82 21 = 0 := fun r f gt => by
      have f2 : r 2 = (zx_up r4.2 2 15 r4.1) 2 := f 2 (by decide)
      have g : ∀ q, q ≠ 2 → (q < 36 ∨ 63 < q) → r q = σ q := fun q n hq => by
        rw [f q (by omega), zu_other n, fr q (by omega), zu_other n, zu_other n]
      have g41 : r 41 = r4.2 41 := by rw [f 41 (by decide), zu_other (by decide)]
      have g42 : row5 r = row5 r4.2 := by
        funext j
        unfold row5
        rw [f 42 (by decide), zu_other (by decide)]
      have g43 : r 43 = r4.2 43 := by rw [f 43 (by decide), zu_other (by decide)]
      have g44 : r 44 = r4.2 44 := by rw [f 44 (by decide), zu_other (by decide)]
      have g15 : r 2 15 = r4.1 := by rw [f2, zx_up_same, zu_eq]
      have g13 : r 2 13 = 1 := by
        rw [f2, zx_up_same, zu_ne (by decide), fr 2 (by decide), zx_up_same, zu_ne (by decide), zx_up_same, zu_ne (by decide)]
        exact a
      have k82 : r 82 = σ 82 := g 82 (by decide) (by decide)
      have fd' : FDY r := by
        refine ⟨σ, m, len, nc, c0, fun q a b => g q (by omega) (by omega), pc.q (fun q hq => g q (by omega) (by omega)) (by rw [k82]), ⟨e40, by rw [k82]; exact e15, c6⟩, sta, fv.of rfl rfl (g 89 (by decide) (by decide)), ?_, pj.of (fun q hq => g q (by omega) (by omega)) (by rw [k82]), ?_⟩
        · rw [g15, g41, g42, g43, g44]
          rcases fn with ⟨k, x⟩ | ⟨k, x⟩
          · exact Or.inl ⟨by rw [k]; decide, x⟩
          · exact Or.inr ⟨fun n => n (ok01.resolve_right k), x⟩
        · rw [g15, g41, g42, g44]
          exact gt
      exact ⟨fun _ => ⟨fun i hi => (sp i hi).of fun q hq => g q (by omega) (by omega), ⟨wk.1.f57 (F57.of fun q hq => g q (by omega) (by omega)) (fun q x y => g q (by omega) (by omega)), wk.2.of fun q hq => g q (by omega) (by omega)⟩, fv.of (by rw [g 4 (by decide) (by decide)]) (by rw [g 4 (by decide) (by decide)]) (g 89 (by decide) (by decide)), ns.of fun q x y => g q (by omega) (by omega), fun _ => fd'.fdn⟩, ⟨fd', sf.1.of (by rw [g 4 (by decide) (by decide)]) (g 5 (by decide) (by decide)) (g 7 (by decide) (by decide)) (g 8 (by decide) (by decide)), sf.2.of (by rw [g 4 (by decide) (by decide)]) (by rw [g 4 (by decide) (by decide)]) (g 88 (by decide) (by decide))⟩, ⟨g13, by rw [g15]; exact ok01⟩, by rw [k82, b]; decide⟩
    refine zp_chk fun _ => zp_ite (fun z => ?_) fun nz => ?_
    · obtain ⟨x, y, z', w⟩ := new _ (fun _ _ => rfl) fun q => absurd z q
      exact fin _ x y z' w
    ·
      rcases fn with ⟨k1, n, W, same, n4, pos, e6, fw, dis, tx⟩ | ⟨k, _⟩
      · have l01 : ∀ j, j < n → r4.2 44 j = 0 ∨ r4.2 44 j = 1 := fun j hj => by
          obtain ⟨M, V, P, Q, _, ⟨v0, v4⟩, _, ms⟩ := tx
          rw [v4 j hj]
          exact vv j (fun t ht => (ms j t hj ht).2.2) (v0 j hj)
        have up : ∀ q, q ≠ 2 → (zx_up r4.2 2 15 r4.1) q = r4.2 q := fun q hq => zu_other hq
        have lo : ∀ q, q ≠ 2 → (q < 36 ∨ 63 < q) → (zx_up r4.2 2 15 r4.1) q = σ q := fun q a b => by rw [up q a, fr q (by omega), zu_other a, zu_other a]
        have gat := c_gather (N := N) (σ := zx_up r4.2 2 15 r4.1) pc (fun q a b => lo q (by omega) (by omega)) n4 (by rw [up 41 (by decide)]; exact e6) (pj.of (fun q hq => lo q (by omega) (by omega)) (by rw [lo 82 (by decide) (by decide)])) (fld.of fun q hq => lo q (by omega) (by omega)) (by rw [up 44 (by decide)]; exact l01)
        refine zp_bind (zp_mono (zp_and gat (zp_and (xg_f_Findings_gather (σ0 := zx_up r4.2 2 15 r4.1) (fun _ _ => rfl)) (xi_f_Findings_gather (σ0 := zx_up r4.2 2 15 r4.1) (fun _ _ _ => rfl)))) fun r7 h7 => ?_)
        obtain ⟨x, y, z', w⟩ := new r7 (fun q hq => by
          by_cases c : 41 ≤ q ∧ q ≤ 44
          · exact h7.2.2 q (by omega) (by omega)
          · exact h7.2.1 q (by omega)) fun _ n' n4' e6' X hX => by
            have nn : n' = n := zo_inj (by omega) (by omega) (e6'.symm.trans e6)
            subst nn
            have r5 : row5 (zx_up r4.2 2 15 r4.1) = row5 r4.2 := by
              funext j
              unfold row5
              rw [up 42 (by decide)]
            have g7 := h7.1 X (by rw [r5]; exact hX)
            rw [up 44 (by decide)] at g7
            exact g7
        exact fin _ x y z' w
      · exact absurd (ok01.resolve_right k) nz
theorem p_runY {N : Nat} {σ : zS} {τ : zT} (li : LI σ) (ev : EQY σ τ) : zp (zf_X_run N σ) (fun r => JR r.2 ∧ zp (zf_M_run N r.2) (fun s => FM r.2 s.2 → JSY s.2)) := by
  refine zp_mono (c_runY li ev) fun r h => ?_
  rcases h with ⟨a, e2⟩ | ⟨jr, ⟨fs, sf⟩, ⟨e13, e15⟩, h21⟩
  · rw [e2]
    refine ⟨ev.1.2, ?_⟩
    rcases ev.1.1.1.2.2.2 with ⟨_, b⟩ | ⟨a', _⟩
    · unfold zf_M_run
      refine zp_ite (fun q => absurd b q) fun _ => zp_some fun _ => ?_
      dsimp only
      have g : ∀ q, q ≠ 82 → (zx_up σ 82 0 0) q = σ q := fun q hq => zu_other hq
      have g82 : ∀ i, i ≠ 0 → (zx_up σ 82 0 0) 82 i = σ 82 i := fun i hi => by rw [zx_up_same, zu_ne hi]
      exact ev.2.of (fun q hq => g q (by omega)) ⟨by rw [g 2 (by decide)], by rw [g 2 (by decide)], by rw [g 2 (by decide)]⟩ ⟨g82 15 (by decide), g82 17 (by decide), g82 53 (by decide), g82 54 (by decide)⟩ ⟨fun i _ => by rw [g 108 (by decide)], fun q a b => g q (by omega)⟩
    · rw [a] at a'
      exact absurd a' (by decide)
  · refine ⟨jr, ?_⟩
    have fs' := fs
    obtain ⟨ρ, m, len, nc, c0, h1, h2, ⟨h3, h4, h5⟩, h6, h7, h8, hj, h9⟩ := fs
    have fl2 : FLD r.2 := ⟨sf.1, sf.2, by rw [h1 4 (by decide) (by decide), h3]; exact (zo_le (k := c0) (j := 6) (by omega) (by omega)).mpr h5⟩
    refine zp_mono (m_runY h21 h2 hj fl2 h1 h7 h3 h4 h5 h6 h8) fun s hs fm => ⟨fun _ => ⟨⟨sf.1.of (by rw [fm.1 4 (by decide) (by decide)]) (fm.1 5 (by decide) (by decide)) (fm.1 7 (by decide) (by decide)) (fm.1 8 (by decide) (by decide)), sf.2.of (by rw [fm.1 4 (by decide) (by decide)]) (by rw [fm.1 4 (by decide) (by decide)]) (fm.1 88 (by decide) (by decide))⟩, fun _ => fs'.of (fun q hq => fm.1 q (by omega) (by omega)) (by rw [fm.1 2 (by decide) (by decide)]) ⟨fm.2 15 (by decide) (by decide), fm.2 17 (by decide) (by decide)⟩⟩, ?_⟩
    have k2 : s.2 2 = r.2 2 := fm.1 2 (by decide) (by decide)
    rw [k2]
    rcases e15 with z | o
    · exact Or.inl ⟨z, (hs.2 fun q => q z).2⟩
    · obtain ⟨s1, s2, s3, n, P, XQ, n4, en, wy, hL, st⟩ := hs.1 (by rw [o]; decide)
      have FI := h9 (by rw [o]; decide) n n4 en (row40 s.2) fun j hj => (st j hj).1
      refine Or.inr ⟨e13, o, s2, ρ, m, len, nc, n, P, XQ, fun q a b => (fm.1 q (by omega) (by omega)).trans (h1 q a b), h2.q (fun q hq => fm.1 q (by omega) (by omega)) (fm.2 17 (by decide) (by decide)), n4, by rw [fm.1 41 (by decide) (by decide)]; exact en, s3.trans en, by rw [fm.1 43 (by decide) (by decide)]; exact wy, ⟨FI.of (fun q x y => fm.1 q (by omega) (by omega)) (fm.1 44 (by decide) (by decide)), hL, hj.of (fun q hq => fm.1 q (by omega) (by omega)) (fm.2 17 (by decide) (by decide))⟩, fun j hj => ?_⟩
      obtain ⟨a1, a2, a3, a4⟩ := st j hj
      rw [fm.1 44 (by decide) (by decide)]
      refine ⟨a1.congr h2.1.1 (fun i hi => ?_) (fun _ _ => rfl), a2, a3, a4⟩
      unfold row5
      rw [fm.1 42 (by decide) (by decide)]
theorem EQY.run {σ r : zS} {τ : zT} (h : EQR σ τ) (f : FM σ r) (k : FM σ r → JSY r) : EQY r τ := ⟨h.m f, k f⟩
