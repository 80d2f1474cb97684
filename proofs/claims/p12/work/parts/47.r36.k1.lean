-- both answer alike
set_option maxRecDepth 2000
theorem z_ex {x : Int32} {m : Nat} (hm : m ≤ 100000) (h0 : 0 ≤ x) (h : x < Int32.ofNat m) : ∃ k, k < m ∧ x = Int32.ofNat k := by
  have n := z_nat h0
  have b := Int32.lt_iff_toInt_lt.mp h
  rw [zo_ti hm] at b
  exact ⟨x.toNatClampNeg, by omega, (zo_mk h0).symm⟩
theorem zx_up_j {σ : zS} {p i q j : Nat} {x : Int32} (h : j ≠ i) : zx_up σ p i x q j = σ q j := by
  by_cases e : q = p
  · rw [e, zx_up_same, zu_ne h]
  · rw [zu_other e]
def SGQ (x y : Int32) : Prop := (x = 256 ∧ y = 1000) ∨ (x = 257 ∧ y = 1001) ∨ (x = 60 ∧ y = 60) ∨ (x = 62 ∧ y = 62)
theorem mkd.sg {k : Int32} {w : Int64} {a b : Int32} (h : mkd k w a b) (hk : k = 256 ∨ k = 257 ∨ k = 60 ∨ k = 62) : SGQ k b := by
  rcases h with ⟨e, _⟩ | ⟨e, _⟩ | ⟨e, _⟩ | ⟨e, _⟩ | ⟨l, _, _, _⟩ | ⟨e, _, v⟩ | ⟨e, _, v⟩ | ⟨sg, _, v⟩
  · rw [e] at hk; exact absurd hk (by decide)
  · rw [e] at hk; exact absurd hk (by decide)
  · rw [e] at hk; exact absurd hk (by decide)
  · rw [e] at hk; exact absurd hk (by decide)
  · rcases hk with e | e | e | e <;> rw [e] at l <;> exact absurd l (by decide)
  · exact Or.inl ⟨e, v⟩
  · exact Or.inr (Or.inl ⟨e, v⟩)
  · rcases hk with e | e | e | e
    · rw [e] at sg; exact absurd sg (by decide)
    · rw [e] at sg; exact absurd sg (by decide)
    · exact Or.inr (Or.inr (Or.inl ⟨e, v.trans e⟩))
    · exact Or.inr (Or.inr (Or.inr ⟨e, v.trans e⟩))
def VR (x : Int32) : Prop := 0 ≤ x ∧ x ≤ 10
theorem VR.loc {x : Int32} (h : x = -1 ∨ (0 ≤ x ∧ x < 3)) (n : ¬ x = -1) : VR (8 + x) := by
  obtain ⟨h0, h3⟩ := h.resolve_left n
  obtain ⟨k, hk, e⟩ := z_ex (m := 3) (by omega) h0 h3
  have b : ∀ k : Fin 3, (0 : Int32) ≤ 8 + Int32.ofNat k.val ∧ 8 + Int32.ofNat k.val ≤ 10 := by decide
  rw [e]
  exact b ⟨k, hk⟩
theorem p_testr {T : TS} {a N : Nat} {c : Nat → Nat} {ws : Nat → Nat → Int64} {nv : Nat} {wv : Nat → Int64} {ρ : zS} {τ : zT} (h : SX T a ρ τ) (ns : NNX c ws nv wv ρ τ) : zp (zf_Reader_takeTestValue N ρ τ) (fun r => ¬ r.1 = -1 → ∀ μ, SM T a μ → VR r.1) := by
  obtain ⟨f, l, t, v, lq⟩ := LQ.ex ns.1 ns.2.1 (T.2.2.1 a)
  have lx := LX.mk ns.1 ns.2.1 lq
  have dj := lq.dj ns.1
  have go : ∀ s0 : Int32, (¬ s0 = -1 → VR (8 + s0)) → zp (zb_Reader_takeTestValue_29 N ρ τ s0) (fun r => ¬ r.1 = -1 → ∀ μ, SM T a μ → VR r.1) := by
    intro s0 hs
    unfold zb_Reader_takeTestValue_29 zb_Reader_takeTestValue_52 zb_Reader_takeTestValue_72
    rw [h.k, h.w]
    refine zp_ite (fun q => zp_ite (fun _ => zp_bind fun r4 _ => zp_some fun _ _ _ => hs q) fun q' => absurd q q') fun q => zp_ite (fun e => zp_ite (fun q' => absurd q' q) fun _ => zp_bind fun r4 _ => zp_some fun _ μ sm => ?_) fun _ => zp_bind fun r6 _ => zp_some fun w => absurd rfl w
    have w := sm.d.val e
    dsimp only
    rw [w.1]
    exact ⟨w.2.1, Int32.le_trans w.2.2 (by decide)⟩
  unfold zf_Reader_takeTestValue
  rw [h.k, h.w]
  exact zp_ite (fun _ => go (-1) fun q => absurd rfl q) fun _ => zp_bind (zp_mono (lx.2.2.2.2 N) fun r hr => go r (by rw [hr]; exact VR.loc dj.2.2.2))
theorem p_setr {T : TS} {a N : Nat} {c : Nat → Nat} {ws : Nat → Nat → Int64} {nv : Nat} {wv : Nat → Int64} {ρ : zS} {τ : zT} (h : SX T a ρ τ) (ns : NNX c ws nv wv ρ τ) : zp (zf_Reader_takeSetValue N ρ τ) (fun r => ¬ r.1 = -1 → ∀ μ, SM T a μ → VR r.1) := by
  obtain ⟨f, l, t, v, lq⟩ := LQ.ex ns.1 ns.2.1 (T.2.2.1 a)
  have dj := lq.dj ns.1
  have fl : zp (zb_Reader_takeSetValue_54 N ρ τ) (fun r => ¬ r.1 = -1 → ∀ μ, SM T a μ → VR r.1) := by
    unfold zb_Reader_takeSetValue_54
    exact zp_bind fun r _ => zp_some fun w => absurd rfl w
  unfold zf_Reader_takeSetValue
  rw [h.k]
  refine zp_ite (fun d => ?_) fun d => ?_
  · unfold zb_Reader_takeSetValue_16
    rw [h.k]
    refine zp_ite (fun z => absurd rfl z) fun _ => zp_ite (fun _ => fl) fun e => ?_
    have e2 := Classical.not_not.mp e
    unfold zb_Reader_takeSetValue_32 zb_Reader_takeSetValue_62 zb_Reader_takeSetValue_84 zb_Reader_takeSetValue_102 zb_Reader_takeSetValue_121
    rw [h.w]
    refine zp_ite (fun _ => zp_ite (fun _ => zp_ite (fun _ => zp_ite (fun _ => zp_bind fun r _ => zp_some fun _ μ sm => ?_) fun z => absurd rfl z) fun z => absurd rfl z) fun z => absurd rfl z) fun z => absurd rfl z
    have w := sm.d.val e2
    dsimp only
    rw [w.1]
    exact ⟨w.2.1, Int32.le_trans w.2.2 (by decide)⟩
  · unfold zb_Reader_takeSetValue_16
    refine zp_ite (fun _ => ?_) fun z => absurd (by decide) z
    unfold zb_Reader_takeSetValue_32
    refine zp_ite (fun z => absurd z (by decide)) fun _ => zp_bind fun so _ => zp_ite (fun _ => ?_) fun _ => fl
    unfold zb_Reader_takeSetValue_62
    rw [h.w]
    refine zp_ite (fun z => absurd z (by decide)) fun _ => zp_bind (zp_mono (p_X_makeLocal ns.1 ns.2.1 lq.2.2.2) fun r10 h10 => ?_)
    unfold zb_Reader_takeSetValue_84 zb_Reader_takeSetValue_102 zb_Reader_takeSetValue_121
    refine zp_ite (fun z => absurd z (by decide)) fun _ => zp_ite (fun q => zp_ite (fun z => absurd z (by decide)) fun _ => zp_bind fun r _ => zp_some fun _ _ _ => VR.loc ?_ q) fun _ => zp_bind fun r _ => zp_some fun w => absurd rfl w
    rcases h10 with ⟨hv, hr⟩ | ⟨hv, n3, hr⟩ | ⟨hv, n3, hr⟩
    · rw [hr]; exact dj.2.2.2
    · rw [hr]; exact Or.inr ⟨(zo_le (k := 0) (j := nv) (by omega) (by omega)).mpr (Nat.zero_le _), (zo_lt (k := nv) (j := 3) (by omega) (by omega)).mpr n3⟩
    · rw [hr]; exact Or.inl rfl
def WKV (k y1 y2 y3 y4 : Int32) (s : zS) (q : Nat) : Prop := (k = 0 → y1 = s 98 q) ∧ (k = 1 → y2 = s 99 q ∧ y3 = -1 ∧ VR y2) ∧ (k = 2 → y1 = s 98 q ∧ y2 = s 99 q ∧ VR y2 ∧ ((y3 = -1 ∧ s 101 q = 0) ∨ ((y3 = 43 ∨ y3 = 45) ∧ s 101 q = y3 ∧ y4 = s 100 q ∧ VR y4))) ∧ ((k = 5 ∨ k = 6 ∨ k = 12) → y2 = s 99 q ∧ y4 = s 100 q ∧ SGQ y3 (s 101 q) ∧ VR y2 ∧ VR y4)
def WKA (ρ μ : zS) : Prop := ∀ t z : Nat, t < 4 → z < 24 → Int32.ofNat z < ρ 5 t → WKV (ρ 7 (24 * t + z)) (ρ 13 (24 * t + z)) (ρ 14 (24 * t + z)) (ρ 15 (24 * t + z)) (ρ 16 (24 * t + z)) μ (24 * t + z)
abbrev wkk (k : Int32) : Prop := k = 0 ∨ k = 1 ∨ k = 2 ∨ k = 5 ∨ k = 6 ∨ k = 12
theorem WKV.of {k y1 y2 y3 y4 : Int32} {μ s : zS} {q : Nat} (h : WKV k y1 y2 y3 y4 μ q) (e : ∀ p, 98 ≤ p → p ≤ 101 → s p q = μ p q) : WKV k y1 y2 y3 y4 s q := by
  unfold WKV at *
  rw [e 98 (by omega) (by omega), e 99 (by omega) (by omega), e 100 (by omega) (by omega), e 101 (by omega) (by omega)]
  exact h
theorem WKV.no {k y1 y2 y3 y4 : Int32} {s : zS} {q : Nat} (h : ¬ wkk k) : WKV k y1 y2 y3 y4 s q := ⟨fun e => absurd (Or.inl e) h, fun e => absurd (Or.inr (Or.inl e)) h, fun e => absurd (Or.inr (Or.inr (Or.inl e))) h, fun e => absurd (Or.inr (Or.inr (Or.inr e))) h⟩
def F98 (σ0 σ : zS) : Prop := ∀ q, 98 ≤ q → q ≤ 101 → σ q = σ0 q
theorem F98.rfl' {σ : zS} : F98 σ σ := fun _ _ _ => rfl
theorem F98.up {σ0 σ : zS} {p i : Nat} {x : Int32} (hp : p < 98 ∨ 101 < p) (h : F98 σ0 σ) : F98 σ0 (zx_up σ p i x) := fun q a b => by rw [zu_other (by omega)]; exact h q a b
def F57 (σ0 σ : zS) : Prop := (σ 5 = σ0 5 ∧ σ 7 = σ0 7) ∧ (σ 13 = σ0 13 ∧ σ 14 = σ0 14 ∧ σ 15 = σ0 15 ∧ σ 16 = σ0 16)
theorem F57.rfl' {σ : zS} : F57 σ σ := ⟨⟨rfl, rfl⟩, rfl, rfl, rfl, rfl⟩
theorem F57.of {σ0 σ : zS} (e : ∀ q, q = 5 ∨ q = 7 ∨ q = 13 ∨ q = 14 ∨ q = 15 ∨ q = 16 → σ q = σ0 q) : F57 σ0 σ := ⟨⟨e 5 (by decide), e 7 (by decide)⟩, e 13 (by decide), e 14 (by decide), e 15 (by decide), e 16 (by decide)⟩
theorem F57.up {σ0 σ : zS} {p i : Nat} {x : Int32} (hp : (5 ≠ p ∧ 7 ≠ p ∧ 13 ≠ p) ∧ (14 ≠ p ∧ 15 ≠ p ∧ 16 ≠ p)) (h : F57 σ0 σ) : F57 σ0 (zx_up σ p i x) := ⟨⟨by rw [zu_other hp.1.1]; exact h.1.1, by rw [zu_other hp.1.2.1]; exact h.1.2⟩, by rw [zu_other hp.1.2.2]; exact h.2.1, by rw [zu_other hp.2.1]; exact h.2.2.1, by rw [zu_other hp.2.2.1]; exact h.2.2.2.1, by rw [zu_other hp.2.2.2]; exact h.2.2.2.2⟩
theorem WKA.f57 {ρ μ r s : zS} (h : WKA ρ μ) (e : F57 ρ r) (f : F98 μ s) : WKA r s := fun t z ht hz lt => by
  rw [e.1.1] at lt
  rw [e.1.2, e.2.1, e.2.2.1, e.2.2.2.1, e.2.2.2.2]
  exact (h t z ht hz lt).of fun p a b => congrFun (f p a b) _
def KF (σ0 σ : zS) : Prop := (σ 13 = σ0 13 ∧ σ 14 = σ0 14 ∧ σ 15 = σ0 15 ∧ σ 16 = σ0 16) ∧ ∀ t z : Nat, t < 4 → z < 24 → Int32.ofNat z < σ 5 t → wkk (σ 7 (24 * t + z)) → Int32.ofNat z < σ0 5 t ∧ σ 7 (24 * t + z) = σ0 7 (24 * t + z)
theorem KF.rfl' {σ : zS} : KF σ σ := ⟨⟨rfl, rfl, rfl, rfl⟩, fun _ _ _ _ h _ => ⟨h, rfl⟩⟩
theorem KF.up {σ0 σ : zS} {p i : Nat} {x : Int32} (hp : (5 ≠ p ∧ 7 ≠ p ∧ 13 ≠ p) ∧ (14 ≠ p ∧ 15 ≠ p ∧ 16 ≠ p)) (h : KF σ0 σ) : KF σ0 (zx_up σ p i x) := ⟨⟨by rw [zu_other hp.1.2.2]; exact h.1.1, by rw [zu_other hp.2.1]; exact h.1.2.1, by rw [zu_other hp.2.2.1]; exact h.1.2.2.1, by rw [zu_other hp.2.2.2]; exact h.1.2.2.2⟩, by rw [zu_other hp.1.1, zu_other hp.1.2.1]; exact h.2⟩
theorem WKA.kf {ρ μ r s : zS} (h : WKA ρ μ) (k : KF ρ r) (f : F98 μ s) : WKA r s := fun t z ht hz lt => by
  by_cases w : wkk (r 7 (24 * t + z))
  · obtain ⟨l, e7⟩ := k.2 t z ht hz lt w
    rw [e7, k.1.1, k.1.2.1, k.1.2.2.1, k.1.2.2.2]
    exact (h t z ht hz l).of fun p a b => congrFun (f p a b) _
  · exact WKV.no w
theorem k_addStep {σ : zS} {x1 x2 x3 x4 x5 : Int32} : zp (zf_Program_addStep σ x1 x2 x3 x4 x5) (fun r => r.2 = σ ∨ ∃ t L : Nat, t < 4 ∧ L < 24 ∧ σ 5 t = Int32.ofNat L ∧ r.2 5 = zu (σ 5) t (Int32.ofNat (L + 1)) ∧ r.2 7 = zu (σ 7) (24 * t + L) x2 ∧ ∀ q, q = 13 ∨ q = 14 ∨ q = 15 ∨ q = 16 → r.2 q = σ q) := by
  unfold zf_Program_addStep
  refine zp_ite (fun _ => zp_some (Or.inl rfl)) fun n0 => zp_ite (fun _ => zp_some (Or.inl rfl)) fun n4 => zp_chk fun c1 => zp_ite (fun _ => zp_some (Or.inl rfl)) fun l0 => zp_chk fun _ => zp_ite (fun l24 => zp_chk fun _ => zp_chk fun _ => zp_chk fun _ => zp_chk fun _ => zp_chk fun _ => zp_chk fun _ => zp_chk fun _ => zp_chk fun _ => zp_chk fun _ => zp_some (Or.inr ?_)) fun _ => zp_some (Or.inl rfl)
  obtain ⟨t, t4, e1⟩ := z_ex (m := 4) (by omega) c1.1 c1.2
  obtain ⟨L, lL, eL⟩ := z_ex (m := 24) (by omega) (Int32.not_lt.mp l0) l24
  subst e1
  rw [zo_n (by omega)] at eL
  refine ⟨t, L, t4, lL, eL, ?_⟩
  dsimp only
  rw [zo_n (by omega), eL, (z24 t4 (by omega)).1, zo_1 (by omega)]
  refine ⟨?_, ?_, fun q hq => ?_⟩
  · iterate 7 rw [zu_other (by decide)]
    rw [zx_up_same]
  · iterate 5 rw [zu_other (by decide)]
    rw [zx_up_same, zu_other (by decide), zu_other (by decide)]
  · iterate 8 rw [zu_other (by omega)]
theorem wka_f_Program_addStep {σ0 σ : zS} {x1 x2 x3 x4 x5 : Int32} (hs : KF σ0 σ) (hk : ¬ wkk x2 := by first | assumption | decide) : zp (zf_Program_addStep σ x1 x2 x3 x4 x5) (fun r => KF σ0 r.2) := by
  refine zp_mono k_addStep fun r h => ?_
  rcases h with e | ⟨t, L, t4, lL, e5, f5, f7, fq⟩
  · rw [e]; exact hs
  · refine ⟨⟨(fq 13 (by decide)).trans hs.1.1, (fq 14 (by decide)).trans hs.1.2.1, (fq 15 (by decide)).trans hs.1.2.2.1, (fq 16 (by decide)).trans hs.1.2.2.2⟩, fun t' z ht' hz lt w => ?_⟩
    rw [f5] at lt
    rw [f7] at w ⊢
    by_cases c : t' = t
    · subst c
      rw [zu_eq] at lt
      have lt := (zo_lt (by omega) (by omega)).mp lt
      by_cases d : z = L
      · subst d
        rw [zu_eq] at w
        exact absurd w hk
      · rw [zu_ne (by omega)] at w ⊢
        exact hs.2 t' z ht' hz (by rw [e5]; exact (zo_lt (by omega) (by omega)).mpr (by omega)) w
    · rw [zu_ne c] at lt
      rw [zu_ne (by omega)] at w ⊢
      exact hs.2 t' z ht' hz lt w
def PUT (t L : Nat) (k y1 y2 y3 y4 : Int32) (ρ r : zS) : Prop := (r 5 t = Int32.ofNat (L + 1) ∧ ∀ j, j ≠ t → r 5 j = ρ 5 j) ∧ (r 7 (24 * t + L) = k ∧ ∀ j, j ≠ 24 * t + L → r 7 j = ρ 7 j) ∧ (r 13 = zu (ρ 13) (24 * t + L) y1 ∧ r 14 = zu (ρ 14) (24 * t + L) y2 ∧ r 15 = zu (ρ 15) (24 * t + L) y3 ∧ r 16 = zu (ρ 16) (24 * t + L) y4)
theorem PUT.f57 {t L : Nat} {k y1 y2 y3 y4 : Int32} {ρ r r' : zS} (h : PUT t L k y1 y2 y3 y4 ρ r) (e : F57 r r') : PUT t L k y1 y2 y3 y4 ρ r' := by
  unfold PUT at *
  rw [e.1.1, e.1.2, e.2.1, e.2.2.1, e.2.2.2.1, e.2.2.2.2]
  exact h
theorem WKA.put {t L : Nat} {k y1 y2 y3 y4 : Int32} {ρ μ r s : zS} (h : WKA ρ μ) (t4 : t < 4) (hl : L < 24) (h5 : ρ 5 t = Int32.ofNat L) (p : PUT t L k y1 y2 y3 y4 ρ r) (m : ∀ q, 98 ≤ q → q ≤ 101 → ∀ j, j ≠ 24 * t + L → s q j = μ q j) (w : WKV k y1 y2 y3 y4 s (24 * t + L)) : WKA r s := fun t' z ht' hz lt => by
  obtain ⟨⟨p5, o5⟩, ⟨p7, o7⟩, p13, p14, p15, p16⟩ := p
  by_cases c : 24 * t' + z = 24 * t + L
  · rw [c, p7, p13, p14, p15, p16, zu_eq, zu_eq, zu_eq, zu_eq]
    exact w
  · rw [o7 _ c, p13, p14, p15, p16, zu_ne c, zu_ne c, zu_ne c, zu_ne c]
    refine (h t' z ht' hz ?_).of fun p a b => m p a b _ c
    by_cases d : t' = t
    · subst d
      rw [p5] at lt
      have lt := (zo_lt (by omega) (by omega)).mp lt
      rw [h5]
      exact (zo_lt (by omega) (by omega)).mpr (by omega)
    · rw [o5 t' d] at lt
      exact lt
theorem p_X_workK {ρ : zS} {t L : Nat} {x1 x2 x3 x4 : Int32} (h8 : ρ 29 8 = Int32.ofNat t) (h7 : ρ 29 7 = Int32.ofNat L) (t4 : t < 4) (hl : L < 24) (lt : Int32.ofNat L < ρ 5 t) : zp (zf_Weaver_work ρ x1 x2 x3 x4) (fun r => (r 13 = zu (ρ 13) (24 * t + L) x1 ∧ r 14 = zu (ρ 14) (24 * t + L) x2 ∧ r 15 = zu (ρ 15) (24 * t + L) x3 ∧ r 16 = zu (ρ 16) (24 * t + L) x4) ∧ ∀ q, q ≠ 13 → q ≠ 14 → q ≠ 15 → q ≠ 16 → r q = ρ q) := by
  unfold zf_Weaver_work
  rw [h8, h7]
  refine zp_bind (zp_mono (p_X_slotOf2 t4 hl) fun r1 h1 => ?_)
  rcases h1 with ⟨_, e⟩ | ⟨n, _⟩
  · subst e
    rw [zo_n (by omega)]
    refine zp_chk fun _ => zp_chk fun _ => zp_chk fun _ => zp_chk fun _ => zp_some ⟨⟨?_, ?_, ?_, ?_⟩, fun q a b c d => ?_⟩
    · rw [zu_other (by decide), zu_other (by decide), zu_other (by decide), zx_up_same]
    · rw [zu_other (by decide), zu_other (by decide), zx_up_same, zu_other (by decide)]
    · rw [zu_other (by decide), zx_up_same, zu_other (by decide), zu_other (by decide)]
    · rw [zx_up_same, zu_other (by decide), zu_other (by decide), zu_other (by decide)]
    · rw [zu_other d, zu_other c, zu_other b, zu_other a]
  · exact absurd lt n
theorem PUT.mk' {t L : Nat} {k x y1 y2 y3 y4 : Int32} {ρ ρ1 r7 r8 : zS} (f : RXF ρ ρ1) (em : EM t L k x ρ1 r7) (wk : (r8 13 = zu (r7 13) (24 * t + L) y1 ∧ r8 14 = zu (r7 14) (24 * t + L) y2 ∧ r8 15 = zu (r7 15) (24 * t + L) y3 ∧ r8 16 = zu (r7 16) (24 * t + L) y4) ∧ ∀ q, q ≠ 13 → q ≠ 14 → q ≠ 15 → q ≠ 16 → r8 q = r7 q) : PUT t L k y1 y2 y3 y4 ρ r8 := by
  obtain ⟨fr, _, _, e5, o5, ⟨e7, _⟩, o7, _⟩ := em
  have g : ∀ q, q = 13 ∨ q = 14 ∨ q = 15 ∨ q = 16 → r7 q = ρ q := fun q hq => (fr q (by omega) (by omega) (by omega) (by omega) (by omega) (by omega) (by omega) (by omega) (by omega)).trans (f.1 q (by omega) (by omega) (by omega))
  obtain ⟨⟨w1, w2, w3, w4⟩, wq⟩ := wk
  have q5 := wq 5 (by decide) (by decide) (by decide) (by decide)
  have q7 := wq 7 (by decide) (by decide) (by decide) (by decide)
  refine ⟨⟨by rw [q5]; exact e5, fun j hj => by rw [q5, o5 j hj, f.1 5 (by decide) (by decide) (by decide)]⟩, ⟨by rw [q7]; exact e7, fun j hj => by rw [q7, (o7 j hj).1, f.1 7 (by decide) (by decide) (by decide)]⟩, ?_, ?_, ?_, ?_⟩
  · rw [w1, g 13 (by decide)]
  · rw [w2, g 14 (by decide)]
  · rw [w3, g 15 (by decide)]
  · rw [w4, g 16 (by decide)]
