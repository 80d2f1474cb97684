-- both answer alike
set_option maxRecDepth 2000
theorem z_rg {j n : Nat} (h : j < n) (hn : n ≤ 4000) : (0 : Int32) ≤ Int32.ofNat j ∧ Int32.ofNat j < Int32.ofNat n := ⟨(zo_le (k := 0) (j := j) (by omega) (by omega)).mpr (Nat.zero_le _), (zo_lt (k := j) (j := n) (by omega) (by omega)).mpr h⟩
theorem p_field15 {N : Nat} {σ : zS} {τ : zT} {x1 x2 : Int32} (li : LI σ) (ev : EQS σ τ) : zp (zf_X_field N σ x1 x2) (fun r => zp (zf_M_field r.2 x1 x2) (fun s => r.1 = s.1)) := by
  rcases ev.2.2 with ⟨a, b⟩ | ⟨l13, a, b, ρ, m, len, nc, n, h1, pc, n4, h6, h54, hst⟩
  · unfold zf_X_field zf_M_field
    exact zp_ite (fun q => absurd a q) fun _ => zp_some (zp_ite (fun q => absurd b q) fun _ => zp_some rfl)
  rcases ev.1.1.1.2.2.2 with ⟨a', _⟩ | ⟨_, _, c, len', _, cs, _, _, _, _, _, c6, _⟩
  · rw [l13] at a'
    exact absurd a' (by decide)
  have e40 : σ 4 0 = Int32.ofNat (c 0) := (cs 0 (by decide)).1
  have e15 : σ 82 15 = Int32.ofNat (c 0) := (cs 0 (by decide)).2
  have c06 : c 0 ≤ 6 := c6 0 (by decide)
  have k15 : ¬ σ 2 15 = 0 := by rw [a]; decide
  have k53 : ¬ σ 82 53 = 0 := by rw [b]; decide
  have REF : ∀ (r : zS) (v : Int32), (∀ q, 82 ≤ q → r q = σ q) → ((¬ ((0 ≤ x1 ∧ x1 < Int32.ofNat n) ∧ (0 ≤ x2 ∧ x2 < Int32.ofNat (c 0))) ∧ v = -102) ∨ ∃ k f, k < n ∧ f < c 0 ∧ x1 = Int32.ofNat k ∧ x2 = Int32.ofNat f ∧ v = row40 σ k f) → zp (zf_M_field r x1 x2) (fun s => v = s.1) := fun r v g h => by
    have g82 := g 82 (by decide)
    have g54 : (zx_up r 82 0 0) 82 54 = Int32.ofNat n := by rw [zx_up_same, zu_ne (by decide), g82]; exact h54
    unfold zf_M_field zf_M_isState
    refine zp_ite (fun _ => zp_bind (zp_bind (zp_mono (m_inN n4 (by rw [g54])) fun r1 k1 => zp_chk fun _ => zp_some ?_))) fun q => absurd (by rw [g82]; exact k53) q
    rcases k1 with ⟨e, no⟩ | ⟨e, k, hk, ek⟩
    · refine zp_ite (fun _ => zp_some ?_) fun q => absurd e q
      rcases h with ⟨_, ev⟩ | ⟨k, f, hk, hf, ek, _⟩
      · exact ev
      · exact absurd (by rw [ek]; exact z_rg hk n4) no
    · refine zp_ite (fun q => absurd (e.symm.trans q) (by decide)) fun _ => zp_bind (zp_mono (m_inN (n := c 0) (by omega) (by rw [g82, e15])) fun r4 k4 => ?_)
      rcases k4 with ⟨e', no⟩ | ⟨e', f, hf, ef⟩
      · refine zp_ite (fun _ => zp_some ?_) fun q => absurd e' q
        rcases h with ⟨_, ev⟩ | ⟨k, f, hk, hf, ek, ef, _⟩
        · exact ev
        · exact absurd (by rw [ef]; exact z_rg hf (by omega)) no
      · refine zp_ite (fun q => absurd (e'.symm.trans q) (by decide)) fun _ => ?_
        rcases h with ⟨no, _⟩ | ⟨k', f', hk', hf', ek', ef', ev⟩
        · exact absurd ⟨by rw [ek]; exact z_rg hk n4, by rw [ef]; exact z_rg hf (by omega)⟩ no
        · rw [ek', ef', zo_mul40 (s := k') (i := f') (by omega) (by omega), zo_nb (m := 40 * k' + f') (by omega), g 108 (by decide)]
          exact zp_chk fun _ => zp_some ev
  unfold zf_X_field
  rw [e40]
  refine zp_ite (fun _ => zp_ite (fun q => zp_some (REF σ _ (fun _ _ => rfl) (Or.inl ⟨fun h => absurd q (Int32.not_lt.mpr h.2.1), rfl⟩))) fun q0 => zp_ite (fun q => zp_some (REF σ _ (fun _ _ => rfl) (Or.inl ⟨fun h => absurd h.2.2 (Int32.not_lt.mpr q), rfl⟩))) fun q1 => zp_bind (zp_mono (c_hasN h6 n4) fun r4 h4 => ?_)) fun q => absurd k15 q
  rcases h4 with ⟨e, no⟩ | ⟨e, k, hk, ek⟩
  · exact zp_ite (fun q => absurd e q) fun _ => zp_some (REF σ _ (fun _ _ => rfl) (Or.inl ⟨fun h => no h.1, rfl⟩))
  · obtain ⟨f, hf, ef⟩ := z_ex (m := c 0) (by omega) (Int32.not_lt.mp q0) (Int32.not_le.mp q1)
    subst ek ef
    refine zp_ite (fun _ => zp_bind (zp_mono (c_load pc h6 n4 hk h1 (hst k hk)) fun r6 ⟨ld, fr⟩ => ?_)) fun q => absurd (by rw [e]; decide) q
    unfold zf_Machine_valueOfField
    refine zp_bind (zp_some (zp_some ?_))
    refine REF r6 _ (fun q hq => fr q (by omega) (by omega) (by omega) (by omega)) (Or.inr ⟨k, f, hk, hf, rfl, rfl, ?_⟩)
    have e3 : (3 : Int32) * Int32.ofNat f = Int32.ofNat (3 * f) := by
      show Int32.ofNat 3 * Int32.ofNat f = _
      rw [← Int32.ofNat_mul]
    dsimp only
    rw [e3, ld.2.1 0 (by omega)]
    exact (hst k hk).1.get (by omega)
theorem z_own {k l : Nat} (hk : k ≤ 4000) (hl : l ≤ 10) : ((40 * Int32.ofNat k) + 6) + Int32.ofNat l = Int32.ofNat (40 * k + (6 + l)) := by
  have a : 40 * Int32.ofNat k + 6 = Int32.ofNat (40 * k + 6) := zo_mul40 (s := k) (i := 6) (by omega) (by omega)
  rw [a, ← Int32.ofNat_add, Nat.add_assoc]
theorem p_owner16 {N : Nat} {σ : zS} {τ : zT} {x1 x2 : Int32} (li : LI σ) (ev : EQS σ τ) : zp (zf_X_owner N σ x1 x2) (fun r => zp (zf_M_owner r.2 x1 x2) (fun s => r.1 = s.1)) := by
  rcases ev.2.2 with ⟨a, b⟩ | ⟨l13, a, b, ρ, m, len, nc, n, h1, pc, n4, h6, h54, hst⟩
  · unfold zf_X_owner zf_M_owner
    exact zp_ite (fun q => absurd a q) fun _ => zp_some (zp_ite (fun q => absurd b q) fun _ => zp_some rfl)
  rcases ev.1.1.1.2.2.2 with ⟨a', _⟩ | ⟨_, b21, c, len', _, cs, _, _, _, _, _, c6, _⟩
  · rw [l13] at a'
    exact absurd a' (by decide)
  have m4 := pc.1.1
  have e41 : σ 4 1 = Int32.ofNat (c 1) := (cs 1 (by decide)).1
  have e16 : σ 82 16 = Int32.ofNat (c 1) := (cs 1 (by decide)).2
  have c16 : c 1 ≤ 6 := c6 1 (by decide)
  have pg : PG σ := li.gm.pg (by rw [b21]; decide)
  have c14 : c 1 ≤ 4 := (zo_le (k := c 1) (j := 4) (by omega) (by omega)).mp (by rw [← e16]; exact pg.nl.2)
  have k15 : ¬ σ 2 15 = 0 := by rw [a]; decide
  have k53 : ¬ σ 82 53 = 0 := by rw [b]; decide
  have REF : ∀ (r : zS) (v : Int32), (∀ q, 82 ≤ q → r q = σ q) → ((¬ ((0 ≤ x1 ∧ x1 < Int32.ofNat n) ∧ (0 ≤ x2 ∧ x2 < Int32.ofNat (c 1))) ∧ v = -102) ∨ ∃ k f, k < n ∧ f < c 1 ∧ x1 = Int32.ofNat k ∧ x2 = Int32.ofNat f ∧ v = row40 σ k (6 + f) - 1) → zp (zf_M_owner r x1 x2) (fun s => v = s.1) := fun r v g h => by
    have g82 := g 82 (by decide)
    have g54 : (zx_up r 82 0 0) 82 54 = Int32.ofNat n := by rw [zx_up_same, zu_ne (by decide), g82]; exact h54
    unfold zf_M_owner zf_M_isState
    refine zp_ite (fun _ => zp_bind (zp_bind (zp_mono (m_inN n4 (by rw [g54])) fun r1 k1 => zp_chk fun _ => zp_some ?_))) fun q => absurd (by rw [g82]; exact k53) q
    rcases k1 with ⟨e, no⟩ | ⟨e, k, hk, ek⟩
    · refine zp_ite (fun _ => zp_some ?_) fun q => absurd e q
      rcases h with ⟨_, ev⟩ | ⟨k, f, hk, hf, ek, _⟩
      · exact ev
      · exact absurd (by rw [ek]; exact z_rg hk n4) no
    · refine zp_ite (fun q => absurd (e.symm.trans q) (by decide)) fun _ => zp_bind (zp_mono (m_inN (n := c 1) (by omega) (by rw [g82, e16])) fun r4 k4 => ?_)
      rcases k4 with ⟨e', no⟩ | ⟨e', f, hf, ef⟩
      · refine zp_ite (fun _ => zp_some ?_) fun q => absurd e' q
        rcases h with ⟨_, ev⟩ | ⟨k, f, hk, hf, ek, ef, _⟩
        · exact ev
        · exact absurd (by rw [ef]; exact z_rg hf (by omega)) no
      · refine zp_ite (fun q => absurd (e'.symm.trans q) (by decide)) fun _ => ?_
        rcases h with ⟨no, _⟩ | ⟨k', f', hk', hf', ek', ef', ev⟩
        · exact absurd ⟨by rw [ek]; exact z_rg hk n4, by rw [ef]; exact z_rg hf (by omega)⟩ no
        · rw [ek', ef', z_own (k := k') (l := f') (by omega) (by omega), zo_nb (m := 40 * k' + (6 + f')) (by omega), g 108 (by decide)]
          exact zp_chk fun _ => zp_some ev
  unfold zf_X_owner
  rw [e41]
  refine zp_ite (fun _ => zp_ite (fun q => zp_some (REF σ _ (fun _ _ => rfl) (Or.inl ⟨fun h => absurd q (Int32.not_lt.mpr h.2.1), rfl⟩))) fun q0 => zp_ite (fun q => zp_some (REF σ _ (fun _ _ => rfl) (Or.inl ⟨fun h => absurd h.2.2 (Int32.not_lt.mpr q), rfl⟩))) fun q1 => zp_bind (zp_mono (c_hasN h6 n4) fun r4 h4 => ?_)) fun q => absurd k15 q
  rcases h4 with ⟨e, no⟩ | ⟨e, k, hk, ek⟩
  · exact zp_ite (fun q => absurd e q) fun _ => zp_some (REF σ _ (fun _ _ => rfl) (Or.inl ⟨fun h => no h.1, rfl⟩))
  · obtain ⟨f, hf, ef⟩ := z_ex (m := c 1) (by omega) (Int32.not_lt.mp q0) (Int32.not_le.mp q1)
    subst ek ef
    refine zp_ite (fun _ => zp_bind (zp_mono (c_load pc h6 n4 hk h1 (hst k hk)) fun r6 ⟨ld, fr⟩ => zp_bind (zp_mono (c_ownerOf (t := f) (by omega)) fun r7 e7 => zp_some ?_))) fun q => absurd (by rw [e]; decide) q
    refine REF r6 _ (fun q hq => fr q (by omega) (by omega) (by omega) (by omega)) (Or.inr ⟨k, f, hk, hf, rfl, rfl, ?_⟩)
    dsimp only
    rw [e7]
    rcases ld.2.2.2 f (by omega) with ⟨o1, o2⟩ | ⟨t, ht, o1, o2⟩
    · rw [o1, o2]; decide
    · rw [o1, o2, zo_pred (by omega) (by omega), Nat.add_sub_cancel]
