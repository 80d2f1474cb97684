-- both answer alike
set_option maxRecDepth 2000
theorem f_goTo {N f t : Nat} {μ : zS} {x : Int32} (f6 : f < 6) (t4 : t < 4) : zp (zf_M_goTo N μ (Int32.ofNat t) x) (fun r => r 107 f = μ 107 f ∧ ∀ q, q ≠ 107 → r q = μ q) := by
  unfold zf_M_goTo zf_M_at
  rw [zo_at t4]
  refine zp_bind (zp_some ?_)
  rw [zo_n (m := 14 + 6 * t) (by omega)]
  refine zp_chk fun _ => zp_chk fun _ => zp_ite (fun _ => zp_some ⟨by rw [zx_up_same, zu_ne (by omega)], fun q hq => zu_other hq⟩) fun _ => zp_bind (zp_some ?_)
  rw [zo_1 (m := 14 + 6 * t) (by omega), zo_n (m := 14 + 6 * t + 1) (by omega)]
  refine zp_chk fun _ => zp_bind (zp_mono (m_letGo t4) fun s ⟨g1, g2, g3⟩ => zp_some ⟨?_, fun q hq => by rw [g1 q hq, zu_other hq, zu_other hq]⟩)
  rw [g2 f (Or.inl f6), zx_up_same, zu_ne (by omega), zx_up_same, zu_ne (by omega)]
theorem f_failing {N f t : Nat} {μ : zS} (f6 : f < 6) (t4 : t < 4) : zp (zf_M_failing N μ (Int32.ofNat t)) (fun r => r 107 f = μ 107 f) := by
  unfold zf_M_failing zf_M_at
  rw [zo_at t4]
  refine zp_bind (zp_some ?_)
  rw [zo_1 (m := 14 + 6 * t) (by omega), zo_n (m := 14 + 6 * t + 1) (by omega)]
  refine zp_chk fun _ => zp_bind (zp_mono (m_letGo t4) fun s ⟨g1, g2, g3⟩ => zp_some ?_)
  rw [g2 f (Or.inl f6), zx_up_same, zu_ne (by omega)]
theorem f_begin {N f t : Nat} {μ : zS} (f6 : f < 6) (t4 : t < 4) : zp (zf_M_begin N μ (Int32.ofNat t)) (fun r => r 107 f = μ 107 f ∧ ∀ q, q ≠ 107 → r q = μ q) := by
  unfold zf_M_begin zf_M_at
  rw [zo_at t4]
  refine zp_bind (zp_some ?_)
  rw [zo_1 (m := 14 + 6 * t) (by omega), zo_n (m := 14 + 6 * t + 1) (by omega)]
  refine zp_chk fun _ => zp_bind (zp_mono (f_goTo f6 t4) fun s h => zp_some ⟨?_, fun q hq => by rw [h.2 q hq, zu_other hq]⟩)
  rw [h.1, zx_up_same, zu_ne (by omega)]
theorem f_wake {N f m : Nat} {μ : zS} {x y : Int32} (f6 : f < 6) (m4 : m ≤ 4) (e17 : μ 82 17 = Int32.ofNat m) : zp (zf_M_wake N μ x y) (fun r => r 107 f = μ 107 f ∧ ∀ q, q ≠ 107 → r q = μ q) := by
  have go : ∀ (n u : Nat) (ν : zS) (v : Int32), u ≤ 4 → (ν 107 f = μ 107 f ∧ ∀ q, q ≠ 107 → ν q = μ q) → zp (zb_M_wake_5 N n ν x y v (Int32.ofNat u)) (fun r => r 107 f = μ 107 f ∧ ∀ q, q ≠ 107 → r q = μ q) := by
    intro n
    induction n with
    | zero => intro _ _ _ _ _; exact zp_none
    | succ n ih =>
      intro u ν v hu h
      rw [zb_M_wake_5, h.2 82 (by decide), e17]
      unfold zb_M_wake_70 zf_M_at
      rw [zo_1 (m := u) (by omega)]
      refine zp_ite (fun _ => zp_some h) fun q => ?_
      have lt : u < m := by
        by_cases c : u < m
        · exact c
        · exact absurd ((zo_le (k := m) (j := u) (by omega) (by omega)).mpr (by omega)) q
      rw [zo_at (t := u) (by omega)]
      refine zp_ite (fun _ => zp_some h) fun _ => zp_bind fun r3 _ => zp_ite (fun _ => ih (u + 1) ν v (by omega) h) fun _ => zp_bind (zp_some (zp_chk fun _ => zp_chk fun _ => zp_ite (fun _ => ih (u + 1) ν v (by omega) h) fun _ => zp_bind (zp_some ?_)))
      rw [zo_1 (m := 14 + 6 * u) (by omega), zo_n (m := 14 + 6 * u + 1) (by omega)]
      exact zp_chk fun _ => ih (u + 1) _ y (by omega) ⟨by rw [zx_up_same, zu_ne (by omega)]; exact h.1, fun q hq => by rw [zu_other hq]; exact h.2 q hq⟩
  unfold zf_M_wake
  exact go N 0 μ 1 (by omega) ⟨rfl, fun _ _ => rfl⟩
theorem f_618 {N f t : Nat} {μ : zS} {v : Int32} (f6 : f < 6) (t4 : t < 4) : zp (zb_M_doStep_618 N μ (Int32.ofNat t) v) (fun r => r 107 f = μ 107 f) := by
  unfold zb_M_doStep_618
  exact zp_chk fun _ => zp_bind (zp_mono (f_goTo f6 t4) fun s h => zp_some h.1)
theorem f_139 {N m f t z : Nat} {len : Nat → Nat} {ρ μ : zS} {s0 : Int32} (m4 : m ≤ 4) (e17 : μ 82 17 = Int32.ofNat m) (f6 : f < 6) (ht : t < m) (hz : z < 24) (pro : PRO m (len t) ρ μ (24 * t + z)) (nw : μ 92 (24 * t + z) = 1 → ¬ μ 93 (24 * t + z) = Int32.ofNat f) : zp (zb_M_doStep_139 N μ (Int32.ofNat t) (Int32.ofNat (24 * t + z)) (μ 93 (24 * t + z)) s0) (fun r => r 107 f = μ 107 f) := by
  have t4 : t < 4 := by omega
  obtain ⟨_, _, _, fld, nmd, tgt, _⟩ := pro
  unfold zb_M_doStep_139 zb_M_doStep_432 zb_M_doStep_462 zb_M_doStep_563 zb_M_doStep_335 zf_M_at
  rw [zo_n (m := 24 * t + z) (by omega), zo_at t4]
  have w : ∀ (i : Nat) (v : Int32), i ≠ f → (zx_up μ 107 i v) 107 f = μ 107 f := fun i v hi => by rw [zx_up_same, zu_ne (by omega)]
  have lock : ∀ l : Nat, l < 4 → (6 : Int32) + Int32.ofNat l = Int32.ofNat (6 + l) ∧ (10 : Int32) + Int32.ofNat l = Int32.ofNat (10 + l) := fun l hl => ⟨zo_plus (i := 6) rfl (by omega), zo_plus (i := 10) rfl (by omega)⟩
  have tg : ∀ j : Nat, j < 3 → (Int32.ofNat (14 + 6 * t) + 2) + Int32.ofNat j = Int32.ofNat (16 + 6 * t + j) := fun j hj => by
    show (Int32.ofNat (14 + 6 * t) + Int32.ofNat 2) + Int32.ofNat j = _
    rw [← Int32.ofNat_add, ← Int32.ofNat_add, show 14 + 6 * t + 2 + j = 16 + 6 * t + j by omega]
  have fin : ∀ (ν : zS) (v : Int32), ν 107 f = μ 107 f → zp (zb_M_doStep_618 N ν (Int32.ofNat t) v) (fun r => r 107 f = μ 107 f) := fun ν v h => zp_mono (f_618 f6 t4) fun r e => e.trans h
  refine zp_chk fun _ => zp_ite (fun k => ?_) fun k0 => zp_ite (fun k => ?_) fun k1 => zp_ite (fun k => ?_) fun k2 => zp_ite (fun k => ?_) fun k3 => zp_ite (fun k => ?_) fun k4 => zp_ite (fun _ => ?_) fun k5 => zp_ite (fun _ => ?_) fun k6 => zp_ite (fun k => ?_) fun k7 => zp_ite (fun _ => ?_) fun k8 => zp_ite (fun _ => ?_) fun k9 => zp_ite (fun k => ?_) fun k10 => zp_ite (fun _ => fin μ _ rfl) fun k11 => zp_ite (fun _ => ?_) fun k12 => zp_ite (fun _ => ?_) fun k13 => fin μ _ rfl
  · obtain ⟨j, hj, _, e98⟩ := tgt (Or.inl k)
    refine zp_bind (zp_some ?_)
    rw [e98, tg j hj, zo_n (m := 16 + 6 * t + j) (by omega)]
    exact zp_chk fun _ => zp_chk fun _ => zp_chk fun _ => fin _ _ (w _ _ (by omega))
  · obtain ⟨l, hl, _, e93⟩ := fld (Or.inr k)
    have ne : l ≠ f := fun e => nw k (by rw [e93, e])
    rw [e93, zo_n (m := l) (by omega)]
    exact zp_chk fun _ => zp_bind fun r84 _ => zp_chk fun _ => fin _ _ (w _ _ ne)
  · obtain ⟨j, hj, _, e98⟩ := tgt (Or.inr k)
    have set : ∀ v : Int32, zp ((some (Int32.ofNat (14 + 6 * t))).bind fun r76 => if 0 ≤ Int32.ofNat (24 * t + z) ∧ Int32.ofNat (24 * t + z) < 96 then if 0 ≤ ((r76 + 2) + (μ 98 (24 * t + z))) ∧ ((r76 + 2) + (μ 98 (24 * t + z))) < 40 then zb_M_doStep_618 N (zx_up μ 107 ((r76 + 2) + (μ 98 (24 * t + z))).toNatClampNeg (v &&& 7)) (Int32.ofNat t) (Int32.ofNat (24 * t + z)) else none else none) (fun r => r 107 f = μ 107 f) := fun v => by
      refine zp_bind (zp_some ?_)
      rw [e98, tg j hj, zo_n (m := 16 + 6 * t + j) (by omega)]
      exact zp_chk fun _ => zp_chk fun _ => fin _ _ (w _ _ (by omega))
    exact zp_chk fun _ => zp_bind fun r71 _ => zp_chk fun _ => zp_ite (fun _ => zp_chk fun _ => zp_ite (fun _ => set _) fun _ => zp_chk fun _ => zp_bind fun r80 _ => set _) fun _ => zp_chk fun _ => zp_bind fun r82 _ => set _
  · obtain ⟨l, hl, _, e93, _⟩ := nmd (Or.inl k)
    obtain ⟨l6, l10⟩ := lock l hl
    rw [e93, l6, l10, zo_n (m := 6 + l) (by omega), zo_n (m := 10 + l) (by omega)]
    exact zp_chk fun _ => zp_chk fun _ => zp_chk fun _ => fin _ _ (by rw [zx_up_same, zu_ne (by omega)]; exact w _ _ (by omega))
  · obtain ⟨l, hl, _, e93, _⟩ := nmd (Or.inr (Or.inl k))
    obtain ⟨l6, l10⟩ := lock l hl
    rw [e93, l6, l10, zo_n (m := 6 + l) (by omega), zo_n (m := 10 + l) (by omega)]
    exact zp_chk fun _ => zp_chk fun _ => zp_chk fun _ => zp_ite (fun _ => zp_chk fun _ => fin _ _ (by rw [zx_up_same, zu_ne (by omega)]; exact w _ _ (by omega))) fun _ => zp_chk fun _ => fin _ _ (by rw [zx_up_same, zu_ne (by omega)]; exact w _ _ (by omega))
  · exact zp_bind fun r58 _ => zp_ite (fun _ => zp_chk fun _ => zp_bind (zp_mono (f_goTo f6 t4) fun s h => zp_some h.1)) fun _ => zp_chk fun _ => zp_bind (zp_mono (f_goTo f6 t4) fun s h => zp_some h.1)
  · exact zp_bind fun r53 _ => zp_ite (fun _ => zp_chk fun _ => zp_bind (zp_mono (f_goTo f6 t4) fun s h => zp_some h.1)) fun _ => zp_chk fun _ => zp_bind (zp_mono (f_goTo f6 t4) fun s h => zp_some h.1)
  · refine zp_ite (fun _ => zp_bind (zp_mono (f_failing f6 t4) fun s h => zp_some h)) fun _ => ?_
    obtain ⟨l, hl, _, e93, _⟩ := nmd (Or.inr (Or.inr (Or.inl k)))
    obtain ⟨l6, l10⟩ := lock l hl
    have e5 : Int32.ofNat (14 + 6 * t) + 5 = Int32.ofNat (19 + 6 * t) := by
      show Int32.ofNat (14 + 6 * t) + Int32.ofNat 5 = _
      rw [← Int32.ofNat_add, show 14 + 6 * t + 5 = 19 + 6 * t by omega]
    rw [e93, l6, l10, zo_n (m := 6 + l) (by omega), zo_n (m := 10 + l) (by omega)]
    refine zp_bind (zp_some ?_)
    rw [e5, zo_n (m := 19 + 6 * t) (by omega)]
    refine zp_chk fun _ => zp_chk fun _ => zp_chk fun _ => zp_chk fun _ => zp_bind (zp_some ?_)
    rw [zo_1 (m := 14 + 6 * t) (by omega), zo_n (m := 14 + 6 * t + 1) (by omega)]
    refine zp_chk fun _ => zp_some ?_
    rw [zx_up_same, zu_ne (by omega), zx_up_same, zu_ne (by omega), zx_up_same, zu_ne (by omega)]
    exact w _ _ (by omega)
  · refine zp_ite (fun _ => zp_chk fun _ => zp_ite (fun _ => zp_bind (zp_mono (f_wake f6 m4 e17) fun s h => fin s _ h.1)) fun _ => zp_bind (zp_mono (f_wake f6 m4 e17) fun s h => fin s _ h.1)) fun _ => zp_bind (zp_mono (f_failing f6 t4) fun s h => zp_some h)
  · refine zp_ite (fun _ => zp_chk fun _ => zp_ite (fun _ => zp_bind (zp_mono (f_wake f6 m4 e17) fun s h => fin s _ h.1)) fun _ => zp_bind (zp_mono (f_wake f6 m4 e17) fun s h => fin s _ h.1)) fun _ => zp_bind (zp_mono (f_failing f6 t4) fun s h => zp_some h)
  · obtain ⟨l, hl, _, e93, lm⟩ := nmd (by rw [k]; decide)
    rw [e93]
    exact zp_bind fun r31 _ => zp_ite (fun _ => zp_bind (zp_mono (f_begin f6 hl) fun s h => fin s _ h.1)) fun _ => zp_bind (zp_mono (f_failing f6 t4) fun s h => zp_some h)
  · exact zp_bind fun r28 _ => zp_ite (fun _ => fin μ _ rfl) fun _ => zp_bind (zp_mono (f_failing f6 t4) fun s h => zp_some h)
  · exact zp_chk fun _ => zp_bind (zp_mono (f_goTo f6 t4) fun s h => zp_some h.1)
theorem m_doStepF {N m f t : Nat} {len : Nat → Nat} {nc : Nat → Nat → Nat} {ρ μ : zS} {w x : Nat → Int32} (pc : PC m len nc ρ μ) (st : ST m len nc ρ w x) (ex : ∀ i, i < 40 → μ 107 i = x i) (ht : t < m) (cx : CANX ρ x t) (f6 : f < 6) (nw : ∀ z, z < len t → ρ 7 (24 * t + z) = 1 → ¬ ρ 8 (24 * t + z) = Int32.ofNat f) : zp (zf_M_doStep N μ (Int32.ofNat t)) (fun s => s 107 f = x f) := by
  obtain ⟨⟨m4, p1, p17⟩, p2, p3, p4, p5⟩ := pc
  have t4 : t < 4 := by omega
  have len24 := (p2 t ht).1
  obtain ⟨z, zl, es, hw⟩ : ∃ z, z < len t ∧ x (14 + 6 * t) = Int32.ofNat z ∧ (x (15 + 6 * t) = 1 ∨ x (15 + 6 * t) = 3) := by
    have h13 : x (15 + 6 * t) = 1 ∨ x (15 + 6 * t) = 3 := by
      rcases cx with c | c
      · exact Or.inl c.1
      · exact Or.inr c.1
    rcases st.2.2.2.1 t ht with k | ⟨_, z, k1, k2⟩ | ⟨_, z, l, k1, k2, _⟩ | k
    · rcases h13 with e | e <;> rw [e] at k <;> exact absurd k.1 (by decide)
    · exact ⟨z, k1, k2, h13⟩
    · exact ⟨z, k1, k2, h13⟩
    · rcases h13 with e | e <;> rw [e] at k <;> exact absurd k.1 (by decide)
  have pro := p4 t z ht zl
  have pro' := pro
  obtain ⟨k92, _, _, fld, nmd, _, _⟩ := pro'
  have ef : μ 107 f = x f := ex f (by omega)
  have nw' : μ 92 (24 * t + z) = 1 → ¬ μ 93 (24 * t + z) = Int32.ofNat f := fun k e => by
    obtain ⟨l, _, e8, e93⟩ := fld (Or.inr k)
    exact nw z zl (k92.trans k) (by rw [e8, ← e93]; exact e)
  unfold zf_M_doStep zb_M_doStep_138 zf_M_at
  rw [zo_at t4]
  refine zp_bind (zp_some ?_)
  rw [zo_n (m := 14 + 6 * t) (by omega), ex _ (by omega), es, (z24 t4 (show z ≤ 24 by omega)).2.2.2, zo_n (m := 24 * t + z) (by omega)]
  have run : ∀ s0 : Int32, zp (zb_M_doStep_139 N μ (Int32.ofNat t) (Int32.ofNat (24 * t + z)) (μ 93 (24 * t + z)) s0) (fun s => s 107 f = x f) := fun s0 => zp_mono (f_139 m4 p17 f6 ht (by omega) pro nw') fun s e => e.trans ef
  refine zp_chk fun _ => zp_chk fun _ => zp_bind (zp_mono (m_stateOf t4) fun r4 e4 => ?_)
  rw [ex _ (by omega)] at e4
  subst e4
  refine zp_ite (fun n3 => zp_chk fun _ => zp_bind fun r7 _ => zp_ite (fun _ => run 0) fun _ => zp_chk fun _ => zp_ite (fun _ => run 0) fun _ => run 1) fun y3 => ?_
  have h3 := Classical.not_not.mp y3
  obtain ⟨l, hl, e93⟩ : ∃ l, l < 4 ∧ μ 93 (24 * t + z) = Int32.ofNat l := by
    rcases st.2.2.2.1 t ht with k | ⟨k, _⟩ | ⟨_, z', l, k1, k2, k7, _⟩ | k
    · rw [h3] at k; exact absurd k.1 (by decide)
    · rw [h3] at k; rcases k with k | k <;> exact absurd k (by decide)
    · have zE : z' = z := zo_inj (by omega) (by omega) (k2.symm.trans es)
      rw [zE, k92] at k7
      obtain ⟨l', hl', _, e, _⟩ := nmd (Or.inr (Or.inr (Or.inl k7)))
      exact ⟨l', hl', e⟩
    · rw [h3] at k; exact absurd k.1 (by decide)
  have l6 : (6 : Int32) + Int32.ofNat l = Int32.ofNat (6 + l) := zo_plus (i := 6) rfl (by omega)
  have l10 : (10 : Int32) + Int32.ofNat l = Int32.ofNat (10 + l) := zo_plus (i := 10) rfl (by omega)
  have e5 : Int32.ofNat (14 + 6 * t) + 5 = Int32.ofNat (19 + 6 * t) := by
    show Int32.ofNat (14 + 6 * t) + Int32.ofNat 5 = _
    rw [← Int32.ofNat_add, show 14 + 6 * t + 5 = 19 + 6 * t by omega]
  rw [e93, l6, l10, zo_n (m := 6 + l) (by omega), zo_n (m := 10 + l) (by omega)]
  refine zp_chk fun _ => zp_bind (zp_some ?_)
  rw [e5, zo_n (m := 19 + 6 * t) (by omega)]
  refine zp_chk fun _ => zp_chk fun _ => zp_bind (zp_some ?_)
  rw [e5, zo_n (m := 19 + 6 * t) (by omega)]
  refine zp_chk fun _ => zp_bind (zp_some ?_)
  rw [zo_1 (m := 14 + 6 * t) (by omega), zo_n (m := 14 + 6 * t + 1) (by omega)]
  refine zp_chk fun _ => zp_chk fun _ => zp_bind (zp_mono (f_goTo f6 t4) fun s h => zp_some ?_)
  rw [h.1, zx_up_same, zu_ne (by omega), zx_up_same, zu_ne (by omega), zx_up_same, zu_ne (by omega), zx_up_same, zu_ne (by omega)]
  exact ef
