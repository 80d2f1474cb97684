-- both answer alike
set_option maxRecDepth 2000
def FDN (σ : zS) : Prop := ∃ (ρ : zS) (m : Nat) (len : Nat → Nat) (nc : Nat → Nat → Nat) (c0 : Nat), (∀ q, 4 ≤ q → q ≤ 16 → σ q = ρ q) ∧ PC m len nc ρ σ ∧ (ρ 4 0 = Int32.ofNat c0 ∧ σ 82 15 = Int32.ofNat c0 ∧ c0 ≤ 6) ∧ STA m len ρ ∧ FLV ρ σ ∧ FND m len nc ρ (¬ σ 2 15 = 0) (σ 41 6)
def JR (σ : zS) : Prop := σ 2 13 = 1 → (∀ b, b < 4 → SPB σ b) ∧ (WKA σ σ ∧ JTH σ) ∧ FLV σ σ ∧ NSF σ ∧ (¬ σ 2 14 = 0 → FDN σ)
def EQR (σ : zS) (τ : zT) : Prop := EQW σ τ ∧ JR σ
theorem SPB.of {σ r : zS} {b : Nat} (h : SPB σ b) (e : ∀ q, 5 ≤ q ∧ q ≤ 8 → r q = σ q) : SPB r b := by
  unfold SPB at *
  rw [e 5 (by decide), e 6 (by decide), e 7 (by decide), e 8 (by decide)]
  exact h
theorem NSF.of {σ r : zS} (h : NSF σ) (e : ∀ q, 5 ≤ q → q ≤ 11 → r q = σ q) : NSF r := by
  obtain ⟨nc, k⟩ := h
  refine ⟨nc, fun t ht => ?_⟩
  obtain ⟨n, n24, e5, nr⟩ := k t ht
  exact ⟨n, n24, by rw [e 5 (by decide) (by decide)]; exact e5, nr.of fun s hs => ⟨by rw [e 7 (by decide) (by decide)], by rw [e 8 (by decide) (by decide)], by rw [e 9 (by decide) (by decide)], by rw [e 10 (by decide) (by decide)], by rw [e 11 (by decide) (by decide)], rfl⟩⟩
theorem FDN.of {σ r : zS} (h : FDN σ) (e : ∀ q, (4 ≤ q ∧ q ≤ 16) ∨ q = 41 ∨ (89 ≤ q ∧ q ≤ 101) → r q = σ q) (e15 : r 2 15 = σ 2 15) (e82 : r 82 15 = σ 82 15 ∧ r 82 17 = σ 82 17) : FDN r := by
  obtain ⟨ρ, m, len, nc, c0, h1, h2, ⟨h3, h4, h5⟩, h6, h7, h8⟩ := h
  refine ⟨ρ, m, len, nc, c0, fun q a b => (e q (by omega)).trans (h1 q a b), h2.q (fun q hq => e q (by omega)) e82.2, ⟨h3, e82.1.trans h4, h5⟩, h6, h7.of rfl rfl (e 89 (by decide)), ?_⟩
  rw [e15, e 41 (by decide)]
  exact h8
theorem JR.of {σ r : zS} (h : JR σ) (e : ∀ q, (4 ≤ q ∧ q ≤ 16) ∨ q = 41 ∨ (89 ≤ q ∧ q ≤ 101) → r q = σ q) (e2 : r 2 13 = σ 2 13 ∧ r 2 14 = σ 2 14 ∧ r 2 15 = σ 2 15) (e82 : r 82 15 = σ 82 15 ∧ r 82 17 = σ 82 17) : JR r := fun w => by
  obtain ⟨a, b, c, d, f⟩ := h (e2.1.symm.trans w)
  refine ⟨fun i hi => (a i hi).of fun q hq => e q (by omega), ⟨b.1.f57 (F57.of fun q hq => e q (by omega)) (fun q x y => e q (by omega)), b.2.of fun q hq => e q (by omega)⟩, c.of (by rw [e 4 (by decide)]) (by rw [e 4 (by decide)]) (e 89 (by decide)), d.of fun q x y => e q (by omega), fun g => ?_⟩
  rw [e2.2.1] at g
  exact (f g).of e e2.2.2 e82
theorem EQR.x {σ r : zS} {τ : zT} (h : EQR σ τ) (f : FX σ r ∧ FE σ r) (j : ∀ q, 82 ≤ q → r q = σ q) : EQR r τ := by
  refine ⟨h.1.x f.1 j, h.2.of (fun q hq => ?_) ⟨f.1.2 13 (by decide) (by decide) (by decide), f.2.2.1, f.2.2.2⟩ ⟨by rw [j 82 (by decide)], by rw [j 82 (by decide)]⟩⟩
  rcases hq with k | k | k
  · exact f.1.1 q (by omega) (by omega)
  · exact f.2.1 q (by omega) (by omega)
  · exact j q (by omega)
theorem EQR.j {σ r : zS} {τ : zT} (h : EQR σ τ) (f : FX σ r ∧ JR r) (j : ∀ q, 82 ≤ q → r q = σ q) : EQR r τ := ⟨h.1.x f.1 j, f.2⟩
theorem EQR.m {σ r : zS} {τ : zT} (h : EQR σ τ) (f : FM σ r) : EQR r τ := ⟨h.1.m f, h.2.of (fun q hq => f.1 q (by omega) (by omega)) ⟨by rw [f.1 2 (by decide) (by decide)], by rw [f.1 2 (by decide) (by decide)], by rw [f.1 2 (by decide) (by decide)]⟩ ⟨f.2 15 (by decide) (by decide), f.2 17 (by decide) (by decide)⟩⟩
theorem EQR.ended {σ r ρ : zS} {τ : zT} {x : Int32} (h : EQR σ τ) (hr : ρ = zx_up σ 2 11 x ∨ ρ = σ) (f : (∀ q, q ≠ 82 → r q = ρ q) ∧ (∀ i, i ≠ 0 → i ≠ 2 → r 82 i = ρ 82 i)) : EQR r τ := by
  have e : ∀ q, q ≠ 2 → ρ q = σ q := fun q a => by
    rcases hr with e | e
    · rw [e, zu_other a]
    · rw [e]
  have e2 : ∀ i, i ≠ 11 → r 2 i = σ 2 i := fun i hi => by
    rw [f.1 2 (by decide)]
    rcases hr with e | e
    · rw [e, zx_up_same, zu_ne hi]
    · rw [e]
  have e82 : ∀ i, i ≠ 0 → i ≠ 2 → r 82 i = σ 82 i := fun i a b => by rw [f.2 i a b, e 82 (by decide)]
  exact ⟨h.1.ended hr f, h.2.of (fun q hq => (f.1 q (by omega)).trans (e q (by omega))) ⟨e2 13 (by decide), e2 14 (by decide), e2 15 (by decide)⟩ ⟨e82 15 (by decide) (by decide), e82 17 (by decide) (by decide)⟩⟩
theorem EQR.feed {σ ρ r : zS} {τ υ : zT} {t n : Nat} {f : Nat → Int32} (h : EQR σ τ) (u1 : υ 1 = τ 1) (a : (∀ q, q ≠ 2 → q ≠ 3 → ρ q = σ q) ∧ (∀ i, i ≠ 11 → ρ 2 i = σ 2 i) ∧ tape (σ 3) (ρ 3) t n f) (b : (∀ q, q ≠ 82 → q ≠ 83 → r q = ρ q) ∧ (∀ i, i ≠ 0 → i ≠ 2 → r 82 i = ρ 82 i) ∧ tape (ρ 83) (r 83) t n f) (hb : ∀ i, -128 ≤ f i ∧ f i ≤ 127) : EQR r υ := by
  have e2 : ∀ i, i ≠ 11 → r 2 i = σ 2 i := fun i hi => by rw [b.1 2 (by decide) (by decide), a.2.1 i hi]
  have e82 : ∀ i, i ≠ 0 → i ≠ 2 → r 82 i = σ 82 i := fun i x y => by rw [b.2.1 i x y, a.1 82 (by decide) (by decide)]
  exact ⟨h.1.feed u1 a b hb, h.2.of (fun q hq => (b.1 q (by omega) (by omega)).trans (a.1 q (by omega) (by omega))) ⟨e2 13 (by decide), e2 14 (by decide), e2 15 (by decide)⟩ ⟨e82 15 (by decide) (by decide), e82 17 (by decide) (by decide)⟩⟩
theorem EQR.full {σ r : zS} {τ : zT} (h : EQR σ τ) (b : (∀ q, q ≠ 82 → q ≠ 83 → r q = σ q) ∧ (∀ i, i ≠ 0 → i ≠ 2 → r 82 i = σ 82 i) ∧ r 83 = σ 83) : EQR r τ :=
  ⟨h.1.full b, h.2.of (fun q hq => b.1 q (by omega) (by omega)) ⟨by rw [b.1 2 (by decide) (by decide)], by rw [b.1 2 (by decide) (by decide)], by rw [b.1 2 (by decide) (by decide)]⟩ ⟨b.2.1 15 (by decide) (by decide), b.2.1 17 (by decide) (by decide)⟩⟩
theorem EQR.read {σ ρ r : zS} {τ υ : zT} (h : EQR σ τ) (f : FRd σ ρ ∧ GRd τ υ) (hi : ∀ q, 82 ≤ q → ρ q = σ q) (lo : ∀ q, q < 82 → r q = ρ q) (n : FMr ρ r) (l : LO ρ r) (z : NWC σ ρ ∧ ((ρ 2 13 = 1 → ∀ b, b < 4 → SPB ρ b) ∧ ρ 2 14 = 0)) (fl : (ρ 2 13 = 1 → WKA ρ r ∧ JTH ρ) ∧ (ρ 2 13 = 1 → FLV ρ r) ∧ (ρ 2 13 = 1 → NSF ρ)) : EQR r υ := by
  refine ⟨h.1.read f hi lo n l z.1, fun w => ?_⟩
  rw [lo 2 (by decide)] at w
  have b := fl.1 w
  refine ⟨fun i hi' => (z.2.1 w i hi').of fun q hq => lo q (by omega), ⟨b.1.f57 (F57.of fun q hq => lo q (by omega)) F98.rfl', b.2.of fun q hq => lo q (by omega)⟩, (fl.2.1 w).of (by rw [lo 4 (by decide)]) (by rw [lo 4 (by decide)]) rfl, (fl.2.2 w).of fun q x y => lo q (by omega), fun g => ?_⟩
  rw [lo 2 (by decide)] at g
  exact absurd z.2.2 g
theorem st_read14 {N : Nat} {σ : zS} {τ : zT} : zp (zf_X_read N σ τ) (fun r => r.2.1 2 14 = 0) := by
  unfold zf_X_read
  refine zp_bind fun r1 _ => ?_
  have A : ∀ s0 : Int32, zp (zb_X_read_40 N (zx_up (zx_up r1.1 2 11 0) 2 12 (r1.1 17 6)) r1.2 s0) (fun r => r.2.1 2 14 = 0) := by
    intro s0
    unfold zb_X_read_40 zf_Judge_forget
    refine zp_chk fun _ => zp_bind (zp_some (zp_bind (zp_mono y_fill fun r5 h5 => ?_)))
    have P : r5 2 14 = 0 := by
      rw [h5 2 (by decide), zu_other (by decide), zx_up_same, zu_ne (by decide), zx_up_same, zu_ne (by decide), zx_up_same, zu_eq]
    exact zp_ite (fun _ => zp_some P) fun _ => zp_some P
  exact zp_ite (fun y => A 0) fun y => A 1
theorem st_read8 {N : Nat} {σ : zS} {τ : zT} : zp (zf_X_read N σ τ) (fun r => (r.2.1 2 13 = 1 → ∀ b, b < 4 → SPB r.2.1 b) ∧ r.2.1 2 14 = 0) := zp_mono (zp_and st_read st_read14) fun _ h => ⟨h.1.1, h.2⟩
theorem c_run {N : Nat} {σ : zS} {τ : zT} (li : LI σ) (ev : EQR σ τ) : zp (zf_X_run N σ) (fun r => (σ 2 13 = 0 ∧ r.1 = -101 ∧ r.2 = σ) ∨ (JR r.2 ∧ FDN r.2 ∧ r.1 = (if r.2 2 15 = 0 then -103 else r.2 41 6) ∧ ¬ r.2 82 21 = 0)) := by
  unfold zf_X_run
  rcases ev.1.1.2.2.2 with ⟨a, b⟩ | ⟨a, b, pr⟩
  · exact zp_ite (fun q => absurd a q) fun _ => zp_some (Or.inl ⟨a, rfl, rfl⟩)
  have ld : ¬ σ 2 13 = 0 := by rw [a]; decide
  obtain ⟨sp, wk, fv, ns, fd⟩ := ev.2 a
  have fin : ∀ r : zS, JR r → FDN r → ¬ r 82 21 = 0 → zp (zb_X_run_57 N r) (fun r => (σ 2 13 = 0 ∧ r.1 = -101 ∧ r.2 = σ) ∨ (JR r.2 ∧ FDN r.2 ∧ r.1 = (if r.2 2 15 = 0 then -103 else r.2 41 6) ∧ ¬ r.2 82 21 = 0)) := fun r j f e => by
    unfold zb_X_run_57
    refine zp_ite (fun q => zp_some (Or.inr ⟨j, f, ?_, e⟩)) fun q => zp_some (Or.inr ⟨j, f, ?_, e⟩)
    · dsimp only
      rw [if_pos q]
    · dsimp only
      rw [if_neg q]
  refine zp_ite (fun _ => zp_ite (fun t14 => ?_) fun t14 => ?_) fun q => absurd ld q
  · have e : ∀ q, q ≠ 2 → (zx_up σ 2 16 (-1)) q = σ q := fun q hq => zu_other hq
    have e2 : ∀ i, i ≠ 16 → (zx_up σ 2 16 (-1)) 2 i = σ 2 i := fun i hi => by rw [zx_up_same, zu_ne hi]
    have k82 : (zx_up σ 2 16 (-1)) 82 = σ 82 := e 82 (by decide)
    exact fin _ (ev.2.of (fun q hq => e q (by omega)) ⟨e2 13 (by decide), e2 14 (by decide), e2 15 (by decide)⟩ ⟨by rw [k82], by rw [k82]⟩) ((fd t14).of (fun q hq => e q (by omega)) (e2 15 (by decide)) ⟨by rw [k82], by rw [k82]⟩) (by rw [k82, b]; decide)
  · have pg : PG σ := li.gm.pg (by rw [b]; decide)
    obtain ⟨m, len, nc, pc, c0, c6, e40, e15⟩ := PC.mk pr pg wk.1 wk.2 ns
    have sta := STA.mk pc wk.2 sp
    refine zp_bind (zp_mono (c_explore (σ := zx_up (zx_up σ 2 16 (-1)) 2 14 1) pc (fun q a b => by rw [zu_other (by omega), zu_other (by omega)])) fun r4 h4 => ?_)
    obtain ⟨ok01, fn, fr⟩ := h4
    have new : ∀ r : zS, FGA (zx_up r4.2 2 15 r4.1) r → JR r ∧ FDN r ∧ ¬ r 82 21 = 0 := fun r f => by
      have f2 : r 2 = (zx_up r4.2 2 15 r4.1) 2 := f 2 (by decide)
      have g : ∀ q, q ≠ 2 → (q < 36 ∨ 63 < q) → r q = σ q := fun q n hq => by
        rw [f q (by omega), zu_other n, fr q (by omega), zu_other n, zu_other n]
      have g41 : r 41 = r4.2 41 := by rw [f 41 (by decide), zu_other (by decide)]
      have g15 : r 2 15 = r4.1 := by rw [f2, zx_up_same, zu_eq]
      have k82 : r 82 = σ 82 := g 82 (by decide) (by decide)
      have fd' : FDN r := by
        refine ⟨σ, m, len, nc, c0, fun q a b => g q (by omega) (by omega), pc.q (fun q hq => g q (by omega) (by omega)) (by rw [k82]), ⟨e40, by rw [k82]; exact e15, c6⟩, sta, fv.of rfl rfl (g 89 (by decide) (by decide)), ?_⟩
        rw [g15, g41]
        rcases fn with ⟨k, x⟩ | ⟨k, x⟩
        · exact Or.inl ⟨by rw [k]; decide, x⟩
        · exact Or.inr ⟨fun n => n (ok01.resolve_right k), x⟩
      exact ⟨fun _ => ⟨fun i hi => (sp i hi).of fun q hq => g q (by omega) (by omega), ⟨wk.1.f57 (F57.of fun q hq => g q (by omega) (by omega)) (fun q x y => g q (by omega) (by omega)), wk.2.of fun q hq => g q (by omega) (by omega)⟩, fv.of (by rw [g 4 (by decide) (by decide)]) (by rw [g 4 (by decide) (by decide)]) (g 89 (by decide) (by decide)), ns.of fun q x y => g q (by omega) (by omega), fun _ => fd'⟩, fd', by rw [k82, b]; decide⟩
    refine zp_chk fun _ => zp_ite (fun _ => ?_) fun _ => zp_bind (zp_mono (xg_f_Findings_gather (σ0 := zx_up r4.2 2 15 r4.1) (fun _ _ => rfl)) fun r7 h7 => ?_)
    · obtain ⟨x, y, z⟩ := new _ fun _ _ => rfl
      exact fin _ x y z
    · obtain ⟨x, y, z⟩ := new r7 h7
      exact fin _ x y z
theorem jr_run {N : Nat} {σ : zS} {τ : zT} (li : LI σ) (ev : EQR σ τ) : zp (zf_X_run N σ) (fun r => JR r.2) := zp_mono (c_run li ev) fun r h => by
  rcases h with ⟨_, _, e⟩ | ⟨j, _⟩
  · rw [e]; exact ev.2
  · exact j
theorem p_run8 {N : Nat} {σ : zS} {τ : zT} (li : LI σ) (ev : EQR σ τ) : zp (zf_X_run N σ) (fun r => zp (zf_M_run N r.2) (fun s => r.1 = s.1)) := by
  refine zp_mono (c_run li ev) fun r h => ?_
  rcases h with ⟨a, e1, e2⟩ | ⟨_, ⟨ρ, m, len, nc, c0, h1, h2, ⟨h3, h4, h5⟩, h6, h7, h8⟩, e, h21⟩
  · rcases ev.1.1.2.2.2 with ⟨_, b⟩ | ⟨a', _⟩
    · rw [e2]
      unfold zf_M_run
      exact zp_ite (fun q => absurd b q) fun _ => zp_some e1
    · rw [a] at a'
      exact absurd a' (by decide)
  · refine zp_mono (m_runE h21 h2 h7 h3 h4 h5 h6 h8) fun s hs => ?_
    rw [e]
    by_cases c : r.2 2 15 = 0
    · rw [if_pos c, hs.2 (fun q => q c)]
    · rw [if_neg c, hs.1 c]
