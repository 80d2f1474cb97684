-- both answer alike
set_option maxRecDepth 2000
def TLL (σ : zS) : Prop := (σ 2 16 = -1 ∧ σ 82 62 = -1) ∨ ∃ d, d ≤ 4000 ∧ σ 2 16 = Int32.ofNat d ∧ σ 82 62 = Int32.ofNat d ∧ σ 82 53 = 1 ∧ ∀ i, i < d → σ 81 i = σ 116 i
def EQT (σ : zS) (τ : zT) : Prop := EQZ σ τ ∧ TLL σ
theorem TLL.of {σ r : zS} (h : TLL σ) (e16 : r 2 16 = σ 2 16) (e81 : r 81 = σ 81) (e62 : r 82 62 = σ 82 62) (e53 : r 82 53 = σ 82 53) (e116 : r 116 = σ 116) : TLL r := by
  unfold TLL at *
  rw [e16, e81, e62, e53, e116]
  exact h
theorem EQT.x {σ r : zS} {τ : zT} (h : EQT σ τ) (f : (FX σ r ∧ FE σ r) ∧ FTT σ r) (j : ∀ q, 82 ≤ q → r q = σ q) : EQT r τ := ⟨h.1.x f.1 j, h.2.of f.2.1 f.2.2 (by rw [j 82 (by decide)]) (by rw [j 82 (by decide)]) (j 116 (by decide))⟩
theorem EQT.m {σ r : zS} {τ : zT} (h : EQT σ τ) (f : (FM σ r ∧ FH σ r) ∧ FU σ r) : EQT r τ := ⟨h.1.m f.1, h.2.of (by rw [f.1.1.1 2 (by decide) (by decide)]) (f.1.1.1 81 (by decide) (by decide)) f.2.1 f.1.2.2.2.1 f.2.2⟩
theorem EQT.ended {σ r ρ : zS} {τ : zT} {x : Int32} (h : EQT σ τ) (hr : ρ = zx_up σ 2 11 x ∨ ρ = σ) (f : (∀ q, q ≠ 82 → r q = ρ q) ∧ (∀ i, i ≠ 0 → i ≠ 2 → r 82 i = ρ 82 i)) : EQT r τ := by
  have e : ∀ q, q ≠ 2 → ρ q = σ q := fun q a => by
    rcases hr with e | e
    · rw [e, zu_other a]
    · rw [e]
  have e2 : r 2 16 = σ 2 16 := by
    rw [f.1 2 (by decide)]
    rcases hr with e | e
    · rw [e, zx_up_same, zu_ne (by decide)]
    · rw [e]
  exact ⟨h.1.ended hr f, h.2.of e2 (by rw [f.1 81 (by decide), e 81 (by decide)]) (by rw [f.2 62 (by decide) (by decide), e 82 (by decide)]) (by rw [f.2 53 (by decide) (by decide), e 82 (by decide)]) (by rw [f.1 116 (by decide), e 116 (by decide)])⟩
theorem EQT.feed {σ ρ r : zS} {τ υ : zT} {t n : Nat} {f : Nat → Int32} (h : EQT σ τ) (u1 : υ 1 = τ 1) (a : (∀ q, q ≠ 2 → q ≠ 3 → ρ q = σ q) ∧ (∀ i, i ≠ 11 → ρ 2 i = σ 2 i) ∧ tape (σ 3) (ρ 3) t n f) (b : (∀ q, q ≠ 82 → q ≠ 83 → r q = ρ q) ∧ (∀ i, i ≠ 0 → i ≠ 2 → r 82 i = ρ 82 i) ∧ tape (ρ 83) (r 83) t n f) (hb : ∀ i, -128 ≤ f i ∧ f i ≤ 127) : EQT r υ :=
  ⟨h.1.feed u1 a b hb, h.2.of (by rw [b.1 2 (by decide) (by decide), a.2.1 16 (by decide)]) (by rw [b.1 81 (by decide) (by decide), a.1 81 (by decide) (by decide)]) (by rw [b.2.1 62 (by decide) (by decide), a.1 82 (by decide) (by decide)]) (by rw [b.2.1 53 (by decide) (by decide), a.1 82 (by decide) (by decide)]) (by rw [b.1 116 (by decide) (by decide), a.1 116 (by decide) (by decide)])⟩
theorem EQT.full {σ r : zS} {τ : zT} (h : EQT σ τ) (b : (∀ q, q ≠ 82 → q ≠ 83 → r q = σ q) ∧ (∀ i, i ≠ 0 → i ≠ 2 → r 82 i = σ 82 i) ∧ r 83 = σ 83) : EQT r τ :=
  ⟨h.1.full b, h.2.of (by rw [b.1 2 (by decide) (by decide)]) (b.1 81 (by decide) (by decide)) (b.2.1 62 (by decide) (by decide)) (b.2.1 53 (by decide) (by decide)) (b.1 116 (by decide) (by decide))⟩
theorem p_shown {N m n : Nat} {len : Nat → Nat} {nc : Nat → Nat → Nat} {ρ σ μ : zS} {P XQ : Nat → Nat} {x1 x2 : Int32} (u : ∀ q, 82 < q → μ q = σ q) (u82 : ∀ i, i ≠ 0 → μ 82 i = σ 82 i) (m4 : m ≤ 4) (n4 : n ≤ 4000) (pc : PC m len nc ρ σ) (h54 : σ 82 54 = Int32.ofNat n) (fi : FNG m n ρ (σ 44) (row40 σ) σ) (hL : LEA (σ 114) 0 (fun j => Int32.ofNat (j + 1)) (fun j => RPA m ρ (row40 σ j)) n) (ou : OUB m n σ) (hst : ∀ j, j < n → ST m len nc ρ (row5 σ j) (row40 σ j) ∧ KND m (σ 44 j) (row40 σ j) (σ 113 j) ∧ (0 < j → σ 111 j = Int32.ofNat (P j) ∧ σ 112 j = Int32.ofNat (XQ j)) ∧ (σ 44 j = 1 → ∀ t, t < m → NMV ρ (row40 σ j) t)) : zp (zf_X_shownState σ x1 x2) (fun r => (r = -1 ∨ ∃ j, j < n ∧ r = Int32.ofNat j) ∧ zp (zf_M_stateShown N μ x1 x2) (fun s => r = s)) := by
  obtain ⟨⟨gE, gS, gF, gR⟩, rl, rs⟩ := fi
  have e17 : μ 82 17 = Int32.ofNat m := (u82 17 (by decide)).trans pc.1.2.2
  have e54 : μ 82 54 = Int32.ofNat n := (u82 54 (by decide)).trans h54
  obtain ⟨l2, l1, l4⟩ := BTZ.lists μ ⟨u 113 (by decide), u 108 (by decide)⟩ hst
  have rng : ∀ {p : Nat → Prop} {x r : Int32}, GETL (lst p 0 n) x r → r = -1 ∨ ∃ j, j < n ∧ r = Int32.ofNat j := fun {p x r} h => by
    rcases h with ⟨i, y, e1, _, e⟩ | ⟨_, e⟩
    · have mem := (lst_mem (p := p) n 0 y).mp (List.mem_of_getElem? e1)
      exact Or.inr ⟨y, by omega, e⟩
    · exact Or.inl e
  have k4 : ∀ {p : Nat → Prop}, (lst p 0 n).length ≤ 4000 := fun {p} => Nat.le_trans (lst_len n 0) n4
  have k9 : ∀ {p : Nat → Prop}, (lst p 0 n).length ≤ 90000 := fun {p} => Nat.le_trans k4 (by decide)
  unfold zf_X_shownState zf_M_stateShown
  refine zp_ite (fun c => ?_) fun x0 => zp_ite (fun c => ?_) fun x1' => zp_ite (fun c => ?_) fun x2' => zp_ite (fun c => ?_) fun x3 => zp_ite (fun c => ?_) fun x4 => zp_some ⟨Or.inl rfl, zp_ite (fun _ => zp_ite (fun _ => zp_ite (fun q => absurd q x1') fun _ => zp_ite (fun q => absurd q x2') fun _ => zp_ite (fun q => absurd q x4) fun _ => zp_some rfl) fun q => absurd (Classical.not_not.mp q) x3) fun q => absurd (Classical.not_not.mp q) x0⟩
  ·
    subst c
    have l3 : (lst (fun p => p < 9216 ∧ pRac (σ 57) p) 0 9216).length ≤ 3456 := by
      have a : (lst (fun p => p < 9216 ∧ pRac (σ 57) p) (96 * 0) (96 * 96)).length ≤ bnr 0 96 := rac_len (fun s k => by
        rcases gR s k.1 with ⟨e, _⟩ | ⟨_, _, _, ⟨a, b, za, zb, h1, h2, _, _, _, e⟩, _⟩
        · exact absurd e k.2
        · omega) 96 0
      rw [bnr_all] at a
      exact a
    have same := rac_same n4 gR hL
    refine zp_bind (zp_mono (g_55 rs (by rw [List.length_map]; exact l3)) fun r h => ?_)
    have val : ∀ p, p < 9216 ∧ pRac (σ 57) p → ∃ s, s < n ∧ σ 57 p = Int32.ofNat s ∧ σ 114 p = Int32.ofNat (s + 1) := fun p k => by
      rcases LEA.both n4 gR hL k.1 with ⟨e, _⟩ | ⟨s, hs, e, e', _⟩
      · exact absurd e k.2
      · exact ⟨s, hs, e, e'⟩
    rcases h with ⟨i, y, e1, ex, er⟩ | ⟨no, er⟩
    · rw [List.getElem?_map] at e1
      obtain ⟨p, ep, ey⟩ := Option.map_eq_some_iff.mp e1
      have mem := (lst_mem (p := fun p => p < 9216 ∧ pRac (σ 57) p) 9216 0 p).mp (List.mem_of_getElem? ep)
      obtain ⟨s, hs, v57, v114⟩ := val p mem.2.2
      have ys : y = s := by rw [← ey, v57, zo_n (by omega)]
      refine zp_some ⟨Or.inr ⟨s, hs, by rw [er, ys]⟩, zp_ite (fun q => absurd rfl q) fun _ => zp_bind (zp_mono m_pairOf fun r14 h14 => ?_)⟩
      rw [u 114 (by decide), same] at h14
      have r14p : r14 = Int32.ofNat p := GETL.one (Nat.le_trans l3 (by decide)) h14 (Or.inl ⟨i, p, ep, ex, rfl⟩)
      subst r14p
      refine zp_ite (fun _ => ?_) fun q => absurd (zo_ne (by have := mem.2.1; omega)) q
      rw [zo_n (m := p) (by have := mem.2.1; omega), u 114 (by decide), v114, zo_pred (by omega) (by omega), Nat.add_sub_cancel]
      exact zp_chk fun _ => zp_some (by rw [er, ys])
    · refine zp_some ⟨Or.inl er, zp_ite (fun q => absurd rfl q) fun _ => zp_bind (zp_mono m_pairOf fun r14 h14 => ?_)⟩
      rw [u 114 (by decide), same] at h14
      rw [List.length_map] at no
      have r14m : r14 = -1 := GETL.one (Nat.le_trans l3 (by decide)) h14 (Or.inr ⟨no, rfl⟩)
      exact zp_ite (fun q => absurd r14m q) fun _ => zp_some er
  · subst c
    refine zp_bind (zp_mono (g_49 gS k4) fun r h => zp_some ⟨rng h, zp_ite (fun _ => zp_ite (fun _ => zp_ite (fun _ => zp_mono (m_shown (k := 1) m4 e17 (by omega) n4 e54) fun s hs => ?_) fun q => absurd rfl q) fun q => absurd (Classical.not_not.mp q) (by decide)) fun q => absurd (Classical.not_not.mp q) (by decide)⟩)
    rw [l1] at hs
    exact h.one k9 hs
  · subst c
    refine zp_bind (zp_mono (g_47 gE k4) fun r h => zp_some ⟨rng h, zp_ite (fun _ => zp_ite (fun _ => zp_ite (fun q => absurd q (by decide)) fun _ => zp_ite (fun _ => zp_mono (m_shown (k := 2) m4 e17 (by omega) n4 e54) fun s hs => ?_) fun q => absurd rfl q) fun q => absurd (Classical.not_not.mp q) (by decide)) fun q => absurd (Classical.not_not.mp q) (by decide)⟩)
    rw [l2] at hs
    exact h.one k9 hs
  ·
    subst c
    obtain ⟨c0, c6, o1, o2⟩ := ou
    refine zp_bind (zp_mono (g_61 o2 k4) fun r h => zp_some ⟨rng h, zp_ite (fun _ => zp_ite (fun q => absurd rfl q) fun _ => zp_bind (zp_mono (m_inN k4 (by rw [u82 60 (by decide), o1.1])) fun r11 h11 => ?_)) fun q => absurd (Classical.not_not.mp q) (by decide)⟩)
    rcases h11 with ⟨e, no⟩ | ⟨e, i, hi, ei⟩
    · refine zp_ite (fun _ => zp_some ?_) fun q => absurd e q
      rcases h with ⟨j, y, e1, e2, _⟩ | ⟨_, er⟩
      · have jl := (List.getElem?_eq_some_iff.mp e1).1
        exact absurd (by rw [e2]; exact z_rg jl k4) no
      · exact er
    · refine zp_ite (fun q => absurd (e.symm.trans q) (by decide)) fun _ => ?_
      have hi4 : i < 4000 := Nat.lt_of_lt_of_le hi k4
      have ge := List.getElem?_eq_getElem hi
      rw [ei, zo_n (m := i) (by omega), u 115 (by decide), o1.2 i _ ge]
      exact zp_chk fun _ => zp_some (h.one k9 (Or.inl ⟨i, _, ge, ei, rfl⟩))
  · subst c
    refine zp_bind (zp_mono (g_51 gF k4) fun r h => zp_some ⟨rng h, zp_ite (fun _ => zp_ite (fun _ => zp_ite (fun q => absurd q (by decide)) fun _ => zp_ite (fun q => absurd q (by decide)) fun _ => zp_ite (fun _ => zp_mono (m_shown (k := 4) m4 e17 (by omega) n4 e54) fun s hs => ?_) fun q => absurd rfl q) fun q => absurd (Classical.not_not.mp q) (by decide)) fun q => absurd (Classical.not_not.mp q) (by decide)⟩)
    rw [l4] at hs
    exact h.one k9 hs
theorem p_show10 {N : Nat} {σ : zS} {τ : zT} {x1 x2 : Int32} (ev : EQT σ τ) : zp (zf_X_show N σ x1 x2) (fun r => zp (zf_M_show N r.2 x1 x2) (fun s => r.1 = s.1 ∧ TLL s.2)) := by
  rcases ev.1.2.2 with ⟨a, b⟩ | ⟨l13, a, b, ρ, m, len, nc, n, P, XQ, h1, pc, n4, h6, h54, wy, ⟨fi, hL, pj, ou⟩, hst⟩
  · unfold zf_X_show zf_M_show
    exact zp_ite (fun q => absurd a q) fun _ => zp_some (zp_ite (fun q => absurd b q) fun _ => zp_some ⟨rfl, ev.2.of (by dsimp only; rw [zu_other (by decide)]) (by dsimp only; rw [zu_other (by decide)]) (by dsimp only; rw [zx_up_same, zu_ne (by decide)]) (by dsimp only; rw [zx_up_same, zu_ne (by decide)]) (by dsimp only; rw [zu_other (by decide)])⟩)
  have m4 := pc.1.1
  have k15 : ¬ σ 2 15 = 0 := by rw [a]; decide
  have k53 : ¬ σ 82 53 = 0 := by rw [b]; decide
  have SH := fun (μ : zS) (u : ∀ q, 82 < q → μ q = σ q) (u82 : ∀ i, i ≠ 0 → μ 82 i = σ 82 i) => p_shown (N := N) (x1 := x1) (x2 := x2) u u82 m4 n4 pc h54 fi hL ou hst
  have hP : ∀ j, 0 < j → j < n → P j < j := fun j a b => (wy j a b).2.1
  unfold zf_X_show
  refine zp_ite (fun _ => zp_bind fun r2 e2 => ?_) fun q => absurd k15 q
  have rg := (SH σ (fun _ _ => rfl) (fun _ _ => rfl) r2 e2).1
  refine zp_ite (fun ne => ?_) fun eq => zp_some ?_
  · obtain ⟨j, hj, ej⟩ := rg.resolve_left ne
    subst ej
    refine zp_bind (zp_mono (c_wayTo m4 n4 h6 wy hj) fun r4 h4 => zp_some ?_)
    obtain ⟨e1, sch, f4⟩ := h4
    unfold zf_M_show
    have g : ∀ q, 82 ≤ q → (zx_up r4.2 2 16 r4.1) q = σ q := fun q hq => by rw [zu_other (by omega), f4 q (by omega)]
    dsimp only
    refine zp_ite (fun _ => zp_bind (zp_mono (SH (zx_up (zx_up r4.2 2 16 r4.1) 82 0 0) (fun q hq => by rw [zu_other (by omega)]; exact g q (by omega)) (fun i hi => by rw [zx_up_same, zu_ne hi, g 82 (by decide)]) _ e2).2 fun s es => ?_)) fun q => absurd (by rw [g 82 (by decide)]; exact k53) q
    subst es
    refine zp_ite (fun _ => zp_mono (m_showW (n := n) (P := P) (Q := XQ) n4 hP (fun j j0 jn => ?_) hj (by rw [zx_up_same, zu_eq])) fun r hr => ?_) fun q => absurd ne q
    · have w : ∀ q, 82 < q → (zx_up (zx_up (zx_up r4.2 2 16 r4.1) 82 0 0) 82 62 0) q = σ q := fun q hq => by rw [zu_other (by omega), zu_other (by omega)]; exact g q (by omega)
      rw [w 111 (by decide), w 112 (by decide)]
      exact (hst j jn).2.2.1 j0
    · obtain ⟨h0, h62, sch', fq, f82⟩ := hr
      have D := dpt_le hP 4000 j hj
      refine ⟨h0.symm, Or.inr ⟨dpt P 4000 j, by omega, ?_, h62, ?_, fun i hi => ?_⟩⟩
      · rw [fq 2 (by decide) (by decide), zu_other (by decide), zu_other (by decide), zx_up_same, zu_eq, e1]
      · rw [f82 53 (by decide), zx_up_same, zu_ne (by decide), zx_up_same, zu_ne (by decide), g 82 (by decide)]
        exact b
      · rw [fq 81 (by decide) (by decide), zu_other (by decide), zu_other (by decide), zu_other (by decide)]
        exact sch.one sch' hi
  · unfold zf_M_show
    have e' := Classical.not_not.mp eq
    subst e'
    dsimp only
    refine zp_ite (fun _ => zp_bind (zp_mono (SH (zx_up σ 82 0 0) (fun q hq => zu_other (by omega)) (fun i hi => by rw [zx_up_same, zu_ne hi]) _ e2).2 fun s es => ?_)) fun q => absurd k53 q
    subst es
    exact zp_ite (fun q => absurd rfl q) fun _ => zp_some ⟨rfl, ev.2.of (by dsimp only; rw [zu_other (by decide)]) (by dsimp only; rw [zu_other (by decide)]) (by dsimp only; rw [zx_up_same, zu_ne (by decide)]) (by dsimp only; rw [zx_up_same, zu_ne (by decide)]) (by dsimp only; rw [zu_other (by decide)])⟩
theorem p_length11 {σ : zS} {τ : zT} (ev : EQT σ τ) : zp (zf_X_length σ) (fun r => zp (zf_M_length σ) (fun s => r = s.1)) := by
  unfold zf_X_length zf_M_length
  rcases ev.2 with ⟨a, b⟩ | ⟨d, d4, a, b, c, _⟩
  · exact zp_ite (fun q => absurd a q) fun _ => zp_some (zp_ite (fun _ => zp_some rfl) fun _ => zp_ite (fun _ => zp_some rfl) fun q => absurd b q)
  · have ne : ¬ σ 2 16 = -1 := by rw [a]; exact zo_ne (by omega)
    have ne' : ¬ σ 82 62 = -1 := by rw [b]; exact zo_ne (by omega)
    exact zp_ite (fun _ => zp_some (zp_ite (fun q => absurd (c.symm.trans q) (by decide)) fun _ => zp_ite (fun q => absurd q ne') fun _ => zp_some (a.trans b.symm))) fun q => absurd ne q
theorem p_who12 {σ : zS} {τ : zT} {x1 : Int32} (ev : EQT σ τ) : zp (zf_X_who σ x1) (fun r => zp (zf_M_who σ x1) (fun s => r = s.1)) := by
  unfold zf_X_who zf_M_who
  rcases ev.2 with ⟨a, b⟩ | ⟨d, d4, a, b, c, f⟩
  · exact zp_ite (fun q => absurd a q) fun _ => zp_some (zp_ite (fun _ => zp_some rfl) fun _ => zp_ite (fun q => absurd b q) fun _ => zp_some rfl)
  · have ne : ¬ σ 2 16 = -1 := by rw [a]; exact zo_ne (by omega)
    have ne' : ¬ σ 82 62 = -1 := by rw [b]; exact zo_ne (by omega)
    have REF : ∀ v : Int32, ((¬ (0 ≤ x1 ∧ x1 < Int32.ofNat d) ∧ v = -102) ∨ ∃ i, i < d ∧ x1 = Int32.ofNat i ∧ v = σ 81 i) → zp (if (σ 82 53) = 0 then some ((-101 : Int32), (zx_up σ 82 0 0)) else if ¬ (σ 82 62) = (-1) then (zf_M_in (zx_up σ 82 0 0) x1 0 ((σ 82 62) - 1)).bind fun r3 => if r3 = 0 then some ((-102), (zx_up σ 82 0 0)) else if 0 ≤ x1 ∧ x1 < 4000 then some ((σ 116 x1.toNatClampNeg), (zx_up σ 82 0 0)) else none else some ((-101), (zx_up σ 82 0 0))) (fun s => v = s.1) := fun v h => by
      refine zp_ite (fun q => absurd (c.symm.trans q) (by decide)) fun _ => zp_ite (fun _ => zp_bind (zp_mono (m_inN d4 (by rw [b])) fun r3 h3 => ?_)) fun q => absurd ne' q
      rcases h3 with ⟨e, no⟩ | ⟨e, i, hi, ei⟩
      · refine zp_ite (fun _ => zp_some ?_) fun q => absurd e q
        rcases h with ⟨_, hv⟩ | ⟨i, hi, ei, _⟩
        · exact hv
        · exact absurd (by rw [ei]; exact z_rg hi d4) no
      · refine zp_ite (fun q => absurd (e.symm.trans q) (by decide)) fun _ => ?_
        rcases h with ⟨no, _⟩ | ⟨j, hj, ej, hv⟩
        · exact absurd (by rw [ei]; exact z_rg hi d4) no
        · rw [ej, zo_n (m := j) (by omega)]
          exact zp_chk fun _ => zp_some (hv.trans (f j hj))
    rw [a]
    refine zp_ite (fun _ => ?_) fun q => absurd (zo_ne (by omega)) q
    refine zp_ite (fun q => zp_some (REF _ (Or.inl ⟨fun h => absurd q (Int32.not_lt.mpr h.1), rfl⟩))) fun q0 => zp_ite (fun q => zp_some (REF _ (Or.inl ⟨fun h => absurd h.2 (Int32.not_lt.mpr q), rfl⟩))) fun q1 => ?_
    obtain ⟨i, hi, ei⟩ := z_ex (m := d) (by omega) (Int32.not_lt.mp q0) (Int32.not_le.mp q1)
    refine zp_ite (fun _ => zp_chk fun _ => zp_some ?_) fun q => absurd (by rw [ei]; exact (zo_lt (k := i) (j := 4000) (by omega) (by omega)).mpr (by omega)) q
    refine REF _ (Or.inr ⟨i, hi, ei, ?_⟩)
    rw [ei, zo_n (by omega)]
