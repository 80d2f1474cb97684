-- both answer alike
set_option maxRecDepth 2000
def ANQ (P : Prop) (r : Int32) : Prop := (r = 0 ∧ ¬ P) ∨ (r = 1 ∧ P)
def GON (h : Int32) : Prop := h = 4 ∨ h = 5 ∨ h = 0
theorem c_isGone {σ : zS} {t : Nat} (t4 : t < 4) : zp (zf_Machine_isGone σ (Int32.ofNat t)) (fun r => ANQ (GON (σ 36 t)) r) := by
  unfold zf_Machine_isGone zb_Machine_isGone_20
  refine zp_bind (zp_mono (c_howOf t4) fun r1 e1 => ?_)
  subst e1
  exact zp_ite (fun a => zp_some (Or.inr ⟨rfl, Or.inl a⟩)) fun a => zp_ite (fun b => zp_some (Or.inr ⟨rfl, Or.inr (Or.inl b)⟩)) fun b => zp_ite (fun c => zp_some (Or.inl ⟨rfl, fun g => g.elim a fun g => g.elim b c⟩)) fun c => zp_some (Or.inr ⟨rfl, Or.inr (Or.inr (Classical.not_not.mp c))⟩)
theorem c_isOver {N m : Nat} {σ : zS} (m4 : m ≤ 4) (e42 : σ 4 2 = Int32.ofNat m) : zp (zf_Machine_isOver N σ) (fun r => ANQ (∀ t, t < m → GON (σ 36 t)) r) := by
  have go : ∀ (n t : Nat), t ≤ m → (∀ u, u < t → GON (σ 36 u)) → zp (zb_Machine_isOver_2 N n σ (Int32.ofNat t)) (fun r => ANQ (∀ t, t < m → GON (σ 36 t)) r) := by
    intro n
    induction n with
    | zero => intro _ _ _; exact zp_none
    | succ n ih =>
      intro t ht h
      rw [zb_Machine_isOver_2, e42]
      refine zp_ite (fun q => zp_some (Or.inr ⟨rfl, fun u hu => h u ?_⟩)) fun q => ?_
      · have := (zo_le (k := m) (j := t) (by omega) (by omega)).mp q
        omega
      · have lt : t < m := by
          by_cases c : t < m
          · exact c
          · exact absurd ((zo_le (k := m) (j := t) (by omega) (by omega)).mpr (by omega)) q
        refine zp_bind (zp_mono (c_isGone (by omega)) fun r2 h2 => ?_)
        rw [zo_1 (m := t) (by omega)]
        rcases h2 with ⟨e, g⟩ | ⟨e, g⟩
        · exact zp_ite (fun q => absurd e q) fun _ => zp_some (Or.inl ⟨rfl, fun a => g (a t lt)⟩)
        · refine zp_ite (fun _ => ih (t + 1) (by omega) fun u hu => ?_) fun q => absurd (by rw [e]; decide) q
          by_cases c : u = t
          · rw [c]; exact g
          · exact h u (by omega)
  unfold zf_Machine_isOver
  exact go N 0 (by omega) fun u hu => absurd hu (Nat.not_lt_zero _)
theorem c_onlyWaits {N m : Nat} {σ : zS} (m4 : m ≤ 4) (e42 : σ 4 2 = Int32.ofNat m) : zp (zf_Machine_onlyWaits N σ) (fun r => ANQ (∀ t, t < m → GON (σ 36 t) ∨ σ 36 t = 2) r) := by
  have go : ∀ (n t : Nat), t ≤ m → (∀ u, u < t → GON (σ 36 u) ∨ σ 36 u = 2) → zp (zb_Machine_onlyWaits_2 N n σ (Int32.ofNat t)) (fun r => ANQ (∀ t, t < m → GON (σ 36 t) ∨ σ 36 t = 2) r) := by
    intro n
    induction n with
    | zero => intro _ _ _; exact zp_none
    | succ n ih =>
      intro t ht h
      rw [zb_Machine_onlyWaits_2, e42]
      unfold zb_Machine_onlyWaits_32
      refine zp_ite (fun q => zp_some (Or.inr ⟨rfl, fun u hu => h u ?_⟩)) fun q => ?_
      · have := (zo_le (k := m) (j := t) (by omega) (by omega)).mp q
        omega
      · have lt : t < m := by
          by_cases c : t < m
          · exact c
          · exact absurd ((zo_le (k := m) (j := t) (by omega) (by omega)).mpr (by omega)) q
        rw [zo_1 (m := t) (by omega)]
        have nx : (GON (σ 36 t) ∨ σ 36 t = 2) → zp (zb_Machine_onlyWaits_2 N n σ (Int32.ofNat (t + 1))) (fun r => ANQ (∀ t, t < m → GON (σ 36 t) ∨ σ 36 t = 2) r) := fun g => ih (t + 1) (by omega) fun u hu => by
          by_cases c : u = t
          · rw [c]; exact g
          · exact h u (by omega)
        refine zp_bind (zp_mono (c_isGone (by omega)) fun r2 h2 => ?_)
        rcases h2 with ⟨e, g⟩ | ⟨e, g⟩
        · refine zp_ite (fun q => absurd e q) fun _ => zp_bind (zp_mono (c_howOf (by omega)) fun r4 e4 => ?_)
          subst e4
          exact zp_ite (fun w => nx (Or.inr w)) fun w => zp_some (Or.inl ⟨rfl, fun a => (a t lt).elim g w⟩)
        · exact zp_ite (fun _ => nx (Or.inl g)) fun q => absurd (by rw [e]; decide) q
  unfold zf_Machine_onlyWaits
  exact go N 0 (by omega) fun u hu => absurd hu (Nat.not_lt_zero _)
def bl (ρ : zS) (x : Nat → Int32) (t : Nat) : Int32 := if x (15 + 6 * t) = 1 ∧ ρ 7 (24 * t + (x (14 + 6 * t)).toNatClampNeg) = 3 then x (6 + (ρ 8 (24 * t + (x (14 + 6 * t)).toNatClampNeg)).toNatClampNeg) - 1 else -1
theorem bl_no {ρ : zS} {x : Nat → Int32} {t : Nat} (h : ¬ x (15 + 6 * t) = 1) : bl ρ x t = -1 := by
  unfold bl
  rw [if_neg fun k => h k.1]
theorem bl_k {ρ : zS} {x : Nat → Int32} {t z : Nat} (es : x (14 + 6 * t) = Int32.ofNat z) (hz : z < 24) (h : ¬ ρ 7 (24 * t + z) = 3) : bl ρ x t = -1 := by
  unfold bl
  rw [es, zo_n (by omega), if_neg fun k => h k.2]
theorem bl_y {ρ : zS} {x : Nat → Int32} {t z l : Nat} (h1 : x (15 + 6 * t) = 1) (es : x (14 + 6 * t) = Int32.ofNat z) (hz : z < 24) (h3 : ρ 7 (24 * t + z) = 3) (e8 : ρ 8 (24 * t + z) = Int32.ofNat l) (hl : l < 4) : bl ρ x t = x (6 + l) - 1 := by
  unfold bl
  rw [es, zo_n (by omega), if_pos ⟨h1, h3⟩, e8, zo_n (by omega)]
theorem c_blocker {m t : Nat} {len : Nat → Nat} {nc : Nat → Nat → Nat} {ρ μ σ : zS} {w x : Nat → Int32} (pc : PC m len nc ρ μ) (st : ST m len nc ρ w x) (ld : LDD m ρ w x σ) (ht : t < m) (nm : NMV ρ x t) : zp (zf_Machine_blockerOf σ (Int32.ofNat t)) (fun r => r = bl ρ x t ∧ (r = -1 ∨ ∃ u, u < m ∧ r = Int32.ofNat u)) := by
  obtain ⟨⟨m4, _, _⟩, p2, p3, p4, p5⟩ := pc
  obtain ⟨_, _, _, a4, _, a6, _⟩ := st
  obtain ⟨l1, l2, l3, l4⟩ := ld
  have t4 : t < 4 := by omega
  obtain ⟨len24, e5, _⟩ := p2 t ht
  obtain ⟨h36, h37⟩ := l3 t ht
  unfold zf_Machine_blockerOf
  refine zp_bind fun r1 e1 => zp_bind (zp_mono (c_howOf t4) fun r2 e2 => ?_)
  rw [h36] at e2
  subst e2
  refine zp_ite (fun q => zp_some ⟨(bl_no q).symm, Or.inl rfl⟩) fun q => ?_
  have v : x (15 + 6 * t) = 1 := Classical.not_not.mp q
  obtain ⟨z, zl, es⟩ : ∃ z, z < len t ∧ x (14 + 6 * t) = Int32.ofNat z := by
    rcases a4 t ht with k | ⟨_, z, k1, k2⟩ | ⟨k, _⟩ | k
    · rw [v] at k; exact absurd k.1 (by decide)
    · exact ⟨z, k1, k2⟩
    · rw [v] at k; rcases k with k | k <;> exact absurd k (by decide)
    · rw [v] at k; exact absurd k.1 (by decide)
  have lt5 : Int32.ofNat z < ρ 5 t := by rw [e5]; exact (zo_lt (by omega) (by omega)).mpr zl
  have slot := h37 z (by omega) es lt5
  have e1' : r1 = σ 37 t := c_slotOf t4 r1 e1
  rw [slot] at e1'
  subst e1'
  rw [zo_n (m := 24 * t + z) (by omega), l1 7 (by decide) (by decide), l1 8 (by decide) (by decide)]
  refine zp_chk fun _ => zp_ite (fun k3 => zp_chk fun _ => ?_) fun k3 => zp_some ⟨(bl_k es (by omega) k3).symm, Or.inl rfl⟩
  obtain ⟨k92, _, _, _, nmd, _, _⟩ := p4 t z ht zl
  obtain ⟨l, hl, e8, _, _⟩ := nmd (Or.inl (k92.symm.trans k3))
  rw [e8]
  have B := bl_y v es (by omega) k3 e8 hl
  refine zp_bind (zp_mono (c_ownerOf hl) fun r7 e7 => ?_)
  rcases l4 l hl with ⟨o1, o2⟩ | ⟨u, hu, o1, o2⟩
  · rw [o1] at e7
    subst e7
    refine zp_ite (fun _ => zp_some ⟨?_, Or.inl rfl⟩) fun _ => zp_some ⟨?_, Or.inl rfl⟩
    · rw [B, o2]; decide
    · rw [B, o2]; decide
  · rw [o1] at e7
    subst e7
    refine zp_ite (fun _ => zp_some ⟨?_, Or.inr ⟨u, hu, rfl⟩⟩) fun y => ?_
    · rw [B, o2, zo_pred (by omega) (by omega), Nat.add_sub_cancel]
    · have ut : u = t := zo_inj (by omega) (by omega) (Classical.not_not.mp y)
      rw [ut] at o2
      exact absurd o2 (nm z l (by omega) es v lt5 k3 hl e8)
theorem m_waitsFor {m t : Nat} {len : Nat → Nat} {nc : Nat → Nat → Nat} {ρ μ : zS} {w x : Nat → Int32} (pc : PC m len nc ρ μ) (st : ST m len nc ρ w x) (ex : ∀ i, i < 40 → μ 107 i = x i) (ht : t < m) : zp (zf_M_waitsFor μ (Int32.ofNat t)) (fun r => r = bl ρ x t) := by
  obtain ⟨⟨m4, _, _⟩, p2, p3, p4, p5⟩ := pc
  obtain ⟨_, _, _, a4, _, a6, _⟩ := st
  have t4 : t < 4 := by omega
  obtain ⟨len24, e5, _⟩ := p2 t ht
  unfold zf_M_waitsFor zf_M_at
  rw [zo_at t4]
  refine zp_bind (zp_some ?_)
  rw [zo_n (m := 14 + 6 * t) (by omega), ex _ (by omega)]
  refine zp_chk fun _ => zp_bind (zp_mono (m_stateOf t4) fun r3 e3 => ?_)
  rw [ex _ (by omega)] at e3
  subst e3
  refine zp_ite (fun q => zp_some (bl_no q).symm) fun q => ?_
  have v : x (15 + 6 * t) = 1 := Classical.not_not.mp q
  obtain ⟨z, zl, es⟩ : ∃ z, z < len t ∧ x (14 + 6 * t) = Int32.ofNat z := by
    rcases a4 t ht with k | ⟨_, z, k1, k2⟩ | ⟨k, _⟩ | k
    · rw [v] at k; exact absurd k.1 (by decide)
    · exact ⟨z, k1, k2⟩
    · rw [v] at k; rcases k with k | k <;> exact absurd k (by decide)
    · rw [v] at k; exact absurd k.1 (by decide)
  obtain ⟨k92, _, _, _, nmd, _, _⟩ := p4 t z ht zl
  rw [es, (z24 t4 (show z ≤ 24 by omega)).2.1]
  refine zp_chk fun _ => zp_ite (fun k3 => zp_some (bl_k es (by omega) fun k => k3 (k92.symm.trans k)).symm) fun k3 => zp_chk fun _ => ?_
  have k3 : μ 92 (24 * t + z) = 3 := Classical.not_not.mp k3
  obtain ⟨l, hl, e8, e93, _⟩ := nmd (Or.inl k3)
  have e6 : (6 : Int32) + Int32.ofNat l = Int32.ofNat (6 + l) := zo_plus (i := 6) rfl (by omega)
  rw [e93, e6, zo_n (m := 6 + l) (by omega), ex _ (by omega)]
  exact zp_chk fun _ => zp_some (bl_y v es (by omega) (k92.trans k3) e8 hl).symm
def itr (f : Nat → Int32) (t : Nat) : Nat → Int32
  | 0 => f t
  | k + 1 => if itr f t k = -1 then -1 else f (itr f t k).toNatClampNeg
def cod (b : Int32) : Nat := if b = -1 then 3 else b.toNatClampNeg
def gi (a b c x : Nat) : Nat := if x = 0 then a else if x = 1 then b else if x = 2 then c else 3
theorem ring_dec : ∀ (m a b c : Fin 4) (t : Fin 3), t.val < m.val → (a.val = 3 ∨ a.val < m.val) → (b.val = 3 ∨ b.val < m.val) → (c.val = 3 ∨ c.val < m.val) → (gi a.val b.val c.val t.val = t.val ∨ gi a.val b.val c.val (gi a.val b.val c.val t.val) = t.val ∨ gi a.val b.val c.val (gi a.val b.val c.val (gi a.val b.val c.val t.val)) = t.val ∨ gi a.val b.val c.val (gi a.val b.val c.val (gi a.val b.val c.val (gi a.val b.val c.val t.val))) = t.val) → (0 < m.val ∧ gi a.val b.val c.val t.val = t.val) ∨ (1 < m.val ∧ gi a.val b.val c.val (gi a.val b.val c.val t.val) = t.val) ∨ (2 < m.val ∧ gi a.val b.val c.val (gi a.val b.val c.val (gi a.val b.val c.val t.val)) = t.val) := by decide +kernel
theorem ring_same {m t : Nat} {f : Nat → Int32} (m4 : m ≤ 4) (ht : t < m) (hf : ∀ u, u < m → f u = -1 ∨ ∃ v, v < m ∧ f u = Int32.ofNat v) (h : ∃ k, k < 4 ∧ itr f t k = Int32.ofNat t) : ∃ k, k < m ∧ itr f t k = Int32.ofNat t := by
  by_cases m3 : m = 4
  · subst m3; exact h
  have im : ∀ k, itr f t k = -1 ∨ ∃ v, v < m ∧ itr f t k = Int32.ofNat v := by
    intro k
    induction k with
    | zero => exact hf t ht
    | succ k ih =>
      show (if itr f t k = -1 then -1 else f (itr f t k).toNatClampNeg) = -1 ∨ ∃ v, v < m ∧ (if itr f t k = -1 then -1 else f (itr f t k).toNatClampNeg) = Int32.ofNat v
      rcases ih with e | ⟨v, hv, e⟩
      · rw [if_pos e]; exact Or.inl rfl
      · rw [if_neg (by rw [e]; exact zo_ne (by omega)), e, zo_n (by omega)]
        exact hf v hv
  have cd : ∀ b : Int32, (b = -1 ∨ ∃ v, v < m ∧ b = Int32.ofNat v) → cod b < 4 ∧ (cod b = 3 ∨ cod b < m) ∧ (∀ u, u < m → (cod b = u ↔ b = Int32.ofNat u)) := fun b hb => by
    unfold cod
    rcases hb with e | ⟨v, hv, e⟩
    · rw [if_pos e]
      refine ⟨by omega, Or.inl rfl, fun u hu => ⟨fun k => by omega, fun k => ?_⟩⟩
      exact absurd (k.symm.trans e) (zo_ne (by omega))
    · rw [if_neg (by rw [e]; exact zo_ne (by omega)), e, zo_n (by omega)]
      refine ⟨by omega, Or.inr hv, fun u hu => ⟨fun k => by rw [k], fun k => zo_inj (by omega) (by omega) k⟩⟩
  have F : ∀ i : Nat, ∃ a : Nat, a < 4 ∧ (a = 3 ∨ a < m) ∧ (i < m → a = cod (f i)) := fun i => by
    by_cases c : i < m
    · obtain ⟨c1, c2, _⟩ := cd (f i) (hf i c)
      exact ⟨cod (f i), c1, c2, fun _ => rfl⟩
    · exact ⟨3, by omega, Or.inl rfl, fun k => absurd k c⟩
  obtain ⟨a, a1, a2, a3⟩ := F 0
  obtain ⟨b, b1, b2, b3⟩ := F 1
  obtain ⟨c, c1, c2, c3⟩ := F 2
  have G : ∀ u, u < m → gi a b c u = cod (f u) := fun u hu => by
    unfold gi
    by_cases u0 : u = 0
    · rw [if_pos u0, u0]; exact a3 (by omega)
    · rw [if_neg u0]
      by_cases u1 : u = 1
      · rw [if_pos u1, u1]; exact b3 (by omega)
      · rw [if_neg u1, if_pos (show u = 2 by omega), show u = 2 by omega]; exact c3 (by omega)
  have G3 : gi a b c 3 = 3 := by
    unfold gi
    rw [if_neg (by decide), if_neg (by decide), if_neg (by decide)]
  have N : ∀ k, cod (itr f t (k + 1)) = gi a b c (cod (itr f t k)) := fun k => by
    show cod (if itr f t k = -1 then -1 else f (itr f t k).toNatClampNeg) = _
    rcases im k with e | ⟨v, hv, e⟩
    · rw [if_pos e, e, show cod (-1) = 3 from if_pos rfl, G3]
    · have ne : ¬ itr f t k = -1 := by rw [e]; exact zo_ne (by omega)
      rw [if_neg ne, e, zo_n (by omega)]
      have cv : cod (Int32.ofNat v) = v := ((cd _ (Or.inr ⟨v, hv, rfl⟩)).2.2 v hv).mpr rfl
      rw [cv, G v hv]
  have N0 : cod (itr f t 0) = gi a b c t := (G t ht).symm
  have I : ∀ k, itr f t k = Int32.ofNat t ↔ cod (itr f t k) = t := fun k => ((cd _ (im k)).2.2 t ht).symm
  have D := ring_dec ⟨m, by omega⟩ ⟨a, a1⟩ ⟨b, b1⟩ ⟨c, c1⟩ ⟨t, by omega⟩ ht a2 b2 c2
  dsimp only at D
  rw [← N0, ← N 0, ← N 1, ← N 2] at D
  have D := D (by
    obtain ⟨k, k4, e⟩ := h
    rw [I] at e
    have ks : k = 0 ∨ k = 1 ∨ k = 2 ∨ k = 3 := by omega
    rcases ks with q | q | q | q
    · rw [q] at e; exact Or.inl e
    · rw [q] at e; exact Or.inr (Or.inl e)
    · rw [q] at e; exact Or.inr (Or.inr (Or.inl e))
    · rw [q] at e; exact Or.inr (Or.inr (Or.inr e)))
  rcases D with ⟨q, e⟩ | ⟨q, e⟩ | ⟨q, e⟩
  · exact ⟨0, q, (I 0).mpr e⟩
  · exact ⟨1, q, (I 1).mpr e⟩
  · exact ⟨2, q, (I 2).mpr e⟩
theorem c_hasRing {N m : Nat} {len : Nat → Nat} {nc : Nat → Nat → Nat} {ρ μ σ : zS} {w x : Nat → Int32} (pc : PC m len nc ρ μ) (st : ST m len nc ρ w x) (ld : LDD m ρ w x σ) (nm : ∀ t, t < m → NMV ρ x t) : zp (zf_Machine_hasRing N σ) (fun r => ANQ (∃ t k, t < m ∧ k < 4 ∧ itr (bl ρ x) t k = Int32.ofNat t) r) := by
  have m4 := pc.1.1
  have e42 : σ 4 2 = Int32.ofNat m := by rw [ld.1 4 (by decide) (by decide)]; exact pc.1.2.1
  have go : ∀ (n t : Nat), t ≤ m → (∀ u k, u < t → k < 4 → ¬ itr (bl ρ x) u k = Int32.ofNat u) → zp (zb_Machine_hasRing_2 N n σ (Int32.ofNat t)) (fun r => ANQ (∃ t k, t < m ∧ k < 4 ∧ itr (bl ρ x) t k = Int32.ofNat t) r) := by
    intro n
    induction n with
    | zero => intro _ _ _; exact zp_none
    | succ n ih =>
      intro t ht h
      rw [zb_Machine_hasRing_2, e42]
      refine zp_ite (fun q => zp_some (Or.inl ⟨rfl, fun ⟨u, k, hu, hk, e⟩ => h u k ?_ hk e⟩)) fun q => ?_
      · have := (zo_le (k := m) (j := t) (by omega) (by omega)).mp q
        omega
      · have lt : t < m := by
          by_cases c : t < m
          · exact c
          · exact absurd ((zo_le (k := m) (j := t) (by omega) (by omega)).mpr (by omega)) q
        have nx : (∀ k, k < 4 → ¬ itr (bl ρ x) t k = Int32.ofNat t) → zp (zb_Machine_hasRing_50 (zb_Machine_hasRing_2 N n) N σ (Int32.ofNat t)) (fun r => ANQ (∃ t k, t < m ∧ k < 4 ∧ itr (bl ρ x) t k = Int32.ofNat t) r) := fun g => by
          unfold zb_Machine_hasRing_50
          rw [zo_1 (m := t) (by omega)]
          refine ih (t + 1) (by omega) fun u k hu hk => ?_
          by_cases c : u = t
          · rw [c]; exact g k hk
          · exact h u k (by omega) hk
        have lp : ∀ (i k : Nat) (b : Int32), k ≤ 4 → b = itr (bl ρ x) t k → (b = -1 ∨ ∃ v, v < m ∧ b = Int32.ofNat v) → (∀ j, j < k → ¬ itr (bl ρ x) t j = Int32.ofNat t) → zp (zb_Machine_hasRing_21 (zb_Machine_hasRing_2 N n) N i σ (Int32.ofNat t) b (Int32.ofNat k)) (fun r => ANQ (∃ t k, t < m ∧ k < 4 ∧ itr (bl ρ x) t k = Int32.ofNat t) r) := by
          intro i
          induction i with
          | zero => intro _ _ _ _ _ _; exact zp_none
          | succ i ihi =>
            intro k b hk hb vb g
            rw [zb_Machine_hasRing_21]
            refine zp_ite (fun q => nx fun j hj => g j ?_) fun q => zp_ite (fun bm => nx fun j hj => ?_) fun bm => ?_
            · have := (zo_le (k := 4) (j := k) (by omega) (by omega)).mp q
              omega
            · by_cases c : j < k
              · exact g j c
              ·
                have dn : ∀ d, itr (bl ρ x) t (k + d) = -1 := by
                  intro d
                  induction d with
                  | zero => exact hb.symm.trans bm
                  | succ d ihd =>
                    show (if itr (bl ρ x) t (k + d) = -1 then -1 else bl ρ x (itr (bl ρ x) t (k + d)).toNatClampNeg) = -1
                    rw [if_pos ihd]
                rw [show j = k + (j - k) by omega, dn]
                exact fun e => absurd e.symm (zo_ne (by omega))
            · have k4 : k < 4 := by
                by_cases c : k < 4
                · exact c
                · exact absurd ((zo_le (k := 4) (j := k) (by omega) (by omega)).mpr (by omega)) q
              refine zp_ite (fun nb => ?_) fun yb => zp_some (Or.inr ⟨rfl, t, k, lt, k4, hb.symm.trans (Classical.not_not.mp yb)⟩)
              obtain ⟨v, hv, ev⟩ := vb.resolve_left bm
              rw [ev, zo_1 (m := k) (by omega)]
              refine zp_bind (zp_mono (c_blocker pc st ld hv (nm v hv)) fun r6 h6 => ihi (k + 1) r6 (by omega) ?_ h6.2 fun j hj => ?_)
              · show r6 = (if itr (bl ρ x) t k = -1 then -1 else bl ρ x (itr (bl ρ x) t k).toNatClampNeg)
                rw [← hb, if_neg bm, ev, zo_n (by omega)]
                exact h6.1
              · by_cases c : j = k
                · rw [c, ← hb]; exact nb
                · exact g j (by omega)
        refine zp_bind (zp_mono (c_blocker pc st ld lt (nm t lt)) fun r2 h2 => lp N 0 r2 (by omega) h2.1 h2.2 fun j hj => absurd hj (Nat.not_lt_zero _))
  unfold zf_Machine_hasRing
  exact go N 0 (by omega) fun u k hu => absurd hu (Nat.not_lt_zero _)
theorem m_stuckA {N m : Nat} {len : Nat → Nat} {nc : Nat → Nat → Nat} {ρ μ : zS} {w x : Nat → Int32} (pc : PC m len nc ρ μ) (st : ST m len nc ρ w x) (ex : ∀ i, i < 40 → μ 107 i = x i) (bv : ∀ u, u < m → bl ρ x u = -1 ∨ ∃ v, v < m ∧ bl ρ x u = Int32.ofNat v) : zp (zb_M_stuck_45 N N μ 1 0) (fun s => ((∃ t k, t < m ∧ k < m ∧ itr (bl ρ x) t k = Int32.ofNat t) ∧ s.1 = 1) ∨ (¬ (∃ t k, t < m ∧ k < m ∧ itr (bl ρ x) t k = Int32.ofNat t) ∧ (((∀ t, t < m → GON (x (15 + 6 * t)) ∨ x (15 + 6 * t) = 2) ∧ s.1 = 2) ∨ (¬ (∀ t, t < m → GON (x (15 + 6 * t)) ∨ x (15 + 6 * t) = 2) ∧ s.1 = 3)))) := by
  have m4 := pc.1.1
  have e17 : μ 82 17 = Int32.ofNat m := pc.1.2.2
  have im : ∀ t k, t < m → itr (bl ρ x) t k = -1 ∨ ∃ v, v < m ∧ itr (bl ρ x) t k = Int32.ofNat v := by
    intro t k ht
    induction k with
    | zero => exact bv t ht
    | succ k ih =>
      show (if itr (bl ρ x) t k = -1 then -1 else bl ρ x (itr (bl ρ x) t k).toNatClampNeg) = -1 ∨ ∃ v, v < m ∧ (if itr (bl ρ x) t k = -1 then -1 else bl ρ x (itr (bl ρ x) t k).toNatClampNeg) = Int32.ofNat v
      rcases ih with e | ⟨v, hv, e⟩
      · rw [if_pos e]; exact Or.inl rfl
      · rw [if_neg (by rw [e]; exact zo_ne (by omega)), e, zo_n (by omega)]
        exact bv v hv
  have go : ∀ (n t : Nat) (v2 : Int32), t ≤ m → (∀ u k, u < t → k < m → ¬ itr (bl ρ x) u k = Int32.ofNat u) → ((v2 = 1 ∧ ∀ u, u < t → GON (x (15 + 6 * u)) ∨ x (15 + 6 * u) = 2) ∨ (v2 = 0 ∧ ∃ u, u < m ∧ ¬ (GON (x (15 + 6 * u)) ∨ x (15 + 6 * u) = 2))) → zp (zb_M_stuck_45 N n μ v2 (Int32.ofNat t)) (fun s => ((∃ t k, t < m ∧ k < m ∧ itr (bl ρ x) t k = Int32.ofNat t) ∧ s.1 = 1) ∨ (¬ (∃ t k, t < m ∧ k < m ∧ itr (bl ρ x) t k = Int32.ofNat t) ∧ (((∀ t, t < m → GON (x (15 + 6 * t)) ∨ x (15 + 6 * t) = 2) ∧ s.1 = 2) ∨ (¬ (∀ t, t < m → GON (x (15 + 6 * t)) ∨ x (15 + 6 * t) = 2) ∧ s.1 = 3)))) := by
    intro n
    induction n with
    | zero => intro _ _ _ _ _; exact zp_none
    | succ n ih =>
      intro t v2 ht h hv
      rw [zb_M_stuck_45, e17]
      refine zp_ite (fun q => ?_) fun q => ?_
      · have tm : t = m := by
          have := (zo_le (k := m) (j := t) (by omega) (by omega)).mp q
          omega
        subst tm
        have no : ¬ ∃ u k, u < t ∧ k < t ∧ itr (bl ρ x) u k = Int32.ofNat u := fun ⟨u, k, hu, hk, e⟩ => h u k hu hk e
        rcases hv with ⟨e, g⟩ | ⟨e, u, hu, g⟩
        · exact zp_ite (fun z => absurd (e.symm.trans z) (by decide)) fun _ => zp_some (Or.inr ⟨no, Or.inl ⟨g, rfl⟩⟩)
        · exact zp_ite (fun _ => zp_some (Or.inr ⟨no, Or.inr ⟨fun a => g (a u hu), rfl⟩⟩)) fun z => absurd e z
      · have lt : t < m := by
          by_cases c : t < m
          · exact c
          · exact absurd ((zo_le (k := m) (j := t) (by omega) (by omega)).mpr (by omega)) q
        have t4 : t < 4 := by omega
        have nx : (∀ k, k < m → ¬ itr (bl ρ x) t k = Int32.ofNat t) → zp (zb_M_stuck_96 (zb_M_stuck_45 N n) N μ v2 (Int32.ofNat t)) (fun s => ((∃ t k, t < m ∧ k < m ∧ itr (bl ρ x) t k = Int32.ofNat t) ∧ s.1 = 1) ∨ (¬ (∃ t k, t < m ∧ k < m ∧ itr (bl ρ x) t k = Int32.ofNat t) ∧ (((∀ t, t < m → GON (x (15 + 6 * t)) ∨ x (15 + 6 * t) = 2) ∧ s.1 = 2) ∨ (¬ (∀ t, t < m → GON (x (15 + 6 * t)) ∨ x (15 + 6 * t) = 2) ∧ s.1 = 3)))) := fun g => by
          have h' : ∀ u k, u < t + 1 → k < m → ¬ itr (bl ρ x) u k = Int32.ofNat u := fun u k hu hk => by
            by_cases c : u = t
            · rw [c]; exact g k hk
            · exact h u k (by omega) hk
          unfold zb_M_stuck_96 zb_M_stuck_134 zb_M_stuck_130 zb_M_stuck_135
          refine zp_bind (zp_mono (m_stateOf t4) fun r10 e10 => ?_)
          rw [ex _ (by omega)] at e10
          subst e10
          rw [zo_1 (m := t) (by omega)]
          rcases hv with ⟨e, w2⟩ | ⟨e, bad⟩
          · have yes : (GON (x (15 + 6 * t)) ∨ x (15 + 6 * t) = 2) → ∀ u, u < t + 1 → GON (x (15 + 6 * u)) ∨ x (15 + 6 * u) = 2 := fun k u hu => by
              by_cases c : u = t
              · rw [c]; exact k
              · exact w2 u (by omega)
            refine zp_ite (fun z => absurd (e.symm.trans z) (by decide)) fun _ => zp_ite (fun a => ih (t + 1) 1 (by omega) h' (Or.inl ⟨rfl, yes (Or.inl (Or.inl a))⟩)) fun a => zp_ite (fun b => ih (t + 1) 1 (by omega) h' (Or.inl ⟨rfl, yes (Or.inl (Or.inr (Or.inl b)))⟩)) fun b => zp_ite (fun c => ih (t + 1) 1 (by omega) h' (Or.inl ⟨rfl, yes (Or.inl (Or.inr (Or.inr c)))⟩)) fun c => zp_ite (fun d => ih (t + 1) 0 (by omega) h' (Or.inr ⟨rfl, t, lt, fun k => k.elim (fun k => k.elim a fun k => k.elim b c) d⟩)) fun d => ih (t + 1) 1 (by omega) h' (Or.inl ⟨rfl, yes (Or.inr (Classical.not_not.mp d))⟩)
          · exact zp_ite (fun _ => ih (t + 1) 0 (by omega) h' (Or.inr ⟨rfl, bad⟩)) fun z => absurd e z
        have lp : ∀ (i k : Nat) (b : Int32), k ≤ m → ((k = 0 ∧ b = Int32.ofNat t) ∨ (0 < k ∧ b = itr (bl ρ x) t (k - 1))) → (∀ j, j < k → ¬ itr (bl ρ x) t j = Int32.ofNat t) → zp (zb_M_stuck_59 (zb_M_stuck_45 N n) N i μ v2 (Int32.ofNat t) b (Int32.ofNat k)) (fun s => ((∃ t k, t < m ∧ k < m ∧ itr (bl ρ x) t k = Int32.ofNat t) ∧ s.1 = 1) ∨ (¬ (∃ t k, t < m ∧ k < m ∧ itr (bl ρ x) t k = Int32.ofNat t) ∧ (((∀ t, t < m → GON (x (15 + 6 * t)) ∨ x (15 + 6 * t) = 2) ∧ s.1 = 2) ∨ (¬ (∀ t, t < m → GON (x (15 + 6 * t)) ∨ x (15 + 6 * t) = 2) ∧ s.1 = 3)))) := by
          intro i
          induction i with
          | zero => intro _ _ _ _ _; exact zp_none
          | succ i ihi =>
            intro k b hk hb g
            rw [zb_M_stuck_59, e17]
            refine zp_ite (fun q => nx fun j hj => g j ?_) fun q => zp_ite (fun bm => nx fun j hj => ?_) fun bm => ?_
            · have := (zo_le (k := m) (j := k) (by omega) (by omega)).mp q
              omega
            · rcases hb with ⟨_, e⟩ | ⟨k0, e⟩
              · exact absurd (e.symm.trans bm) (zo_ne (by omega))
              · by_cases c : j < k
                · exact g j c
                · have dn : ∀ d, itr (bl ρ x) t (k - 1 + d) = -1 := by
                    intro d
                    induction d with
                    | zero => exact e.symm.trans bm
                    | succ d ihd =>
                      show (if itr (bl ρ x) t (k - 1 + d) = -1 then -1 else bl ρ x (itr (bl ρ x) t (k - 1 + d)).toNatClampNeg) = -1
                      rw [if_pos ihd]
                  rw [show j = k - 1 + (j - (k - 1)) by omega, dn]
                  exact fun e => absurd e.symm (zo_ne (by omega))
            · have k4 : k < m := by
                by_cases c : k < m
                · exact c
                · exact absurd ((zo_le (k := m) (j := k) (by omega) (by omega)).mpr (by omega)) q
              obtain ⟨v, hv', ev⟩ : ∃ v, v < m ∧ b = Int32.ofNat v := by
                rcases hb with ⟨_, e⟩ | ⟨_, e⟩
                · exact ⟨t, lt, e⟩
                · rcases im t (k - 1) lt with z | ⟨v, hv', z⟩
                  · exact absurd (e.trans z) bm
                  · exact ⟨v, hv', e.trans z⟩
              rw [ev, zo_1 (m := k) (by omega)]
              refine zp_bind (zp_mono (m_waitsFor pc st ex hv') fun r17 h17 => ?_)
              have rk : r17 = itr (bl ρ x) t k := by
                rcases hb with ⟨k0, e⟩ | ⟨k0, e⟩
                · have vt : v = t := zo_inj (by omega) (by omega) (ev.symm.trans e)
                  rw [h17, vt, k0]
                  rfl
                · rw [show k = k - 1 + 1 by omega]
                  show r17 = (if itr (bl ρ x) t (k - 1) = -1 then -1 else bl ρ x (itr (bl ρ x) t (k - 1)).toNatClampNeg)
                  rw [← e, if_neg bm, ev, zo_n (by omega)]
                  exact h17
              refine zp_ite (fun ne => ihi (k + 1) r17 (by omega) (Or.inr ⟨by omega, rk⟩) fun j hj => ?_) fun y => zp_some (Or.inl ⟨⟨t, k, lt, k4, rk.symm.trans (Classical.not_not.mp y)⟩, rfl⟩)
              by_cases c : j = k
              · rw [c, ← rk]; exact ne
              · exact g j (by omega)
        exact lp N 0 (Int32.ofNat t) (by omega) (Or.inl ⟨rfl, rfl⟩) fun j hj => absurd hj (Nat.not_lt_zero _)
  exact go N 0 1 (by omega) (fun u k hu => absurd hu (Nat.not_lt_zero _)) (Or.inl ⟨rfl, fun u hu => absurd hu (Nat.not_lt_zero _)⟩)
theorem c_isLast {σ : zS} {n k : Nat} (h6 : σ 41 6 = Int32.ofNat n) (hn : n ≤ 4000) (hk : k < n) (l01 : σ 44 k = 0 ∨ σ 44 k = 1) : zp (zf_Space_isLast σ (Int32.ofNat k)) (fun r => r = σ 44 k) := by
  unfold zf_Space_isLast
  refine zp_bind (zp_mono (c_has h6 hn hk) fun r1 h1 => ?_)
  rw [zo_n (m := k) (by omega)]
  refine zp_ite (fun z => absurd (h1.symm.trans z) (by decide)) fun _ => zp_chk fun _ => ?_
  rcases l01 with e | e
  · exact zp_ite (fun _ => zp_some e.symm) fun q => absurd e q
  · exact zp_ite (fun z => absurd (e.symm.trans z) (by decide)) fun _ => zp_some e.symm
theorem p_stuck17 {N : Nat} {σ : zS} {τ : zT} {x1 : Int32} (li : LI σ) (ev : EQX σ τ) : zp (zf_X_stuck N σ x1) (fun r => zp (zf_M_stuck N r.2 x1) (fun s => r.1 = s.1)) := by
  rcases ev.2.2 with ⟨a, b⟩ | ⟨l13, a, b, ρ, m, len, nc, n, P, XQ, h1, pc, n4, h6, h54, wy, hst⟩
  · unfold zf_X_stuck zf_M_stuck
    exact zp_ite (fun q => absurd a q) fun _ => zp_some (zp_ite (fun q => absurd b q) fun _ => zp_some rfl)
  have m4 := pc.1.1
  have k15 : ¬ σ 2 15 = 0 := by rw [a]; decide
  have k53 : ¬ σ 82 53 = 0 := by rw [b]; decide
  have NO : ∀ r : zS, (∀ q, 82 ≤ q → r q = σ q) → (∀ k, k < n → x1 = Int32.ofNat k → ¬ σ 113 k = 2) → zp (zf_M_stuck N r x1) (fun s => (-102 : Int32) = s.1) := fun r g h => by
    have g82 := g 82 (by decide)
    have g54 : (zx_up r 82 0 0) 82 54 = Int32.ofNat n := by rw [zx_up_same, zu_ne (by decide), g82]; exact h54
    unfold zf_M_stuck zf_M_isState
    refine zp_ite (fun _ => zp_bind (zp_bind (zp_mono (m_inN n4 (by rw [g54])) fun r1 k1 => zp_chk fun _ => zp_some ?_))) fun q => absurd (by rw [g82]; exact k53) q
    rcases k1 with ⟨e, no⟩ | ⟨e, k, hk, ek⟩
    · exact zp_ite (fun _ => zp_some rfl) fun q => absurd e q
    · refine zp_ite (fun q => absurd (e.symm.trans q) (by decide)) fun _ => zp_chk fun _ => zp_ite (fun q => ?_) fun _ => zp_some rfl
      rw [ek, zo_n (by omega), g 113 (by decide)] at q
      exact absurd q (h k hk ek)
  unfold zf_X_stuck
  refine zp_ite (fun _ => zp_bind (zp_mono (c_hasN h6 n4) fun r2 h2 => ?_)) fun q => absurd k15 q
  rcases h2 with ⟨e, no⟩ | ⟨e, k, hk, ek⟩
  · exact zp_ite (fun _ => zp_some (NO σ (fun _ _ => rfl) fun k hk ek => absurd (by rw [ek]; exact z_rg hk n4) no)) fun q => absurd e q
  subst ek
  obtain ⟨st, kn, _, nmv⟩ := hst k hk
  have l01 : σ 44 k = 0 ∨ σ 44 k = 1 := by
    rcases kn with ⟨z, _⟩ | ⟨o, _⟩
    · exact Or.inl z
    · exact Or.inr o
  have one : ∀ j, j < n → Int32.ofNat k = Int32.ofNat j → j = k := fun j hj e => (zo_inj (by omega) (by omega) e).symm
  refine zp_ite (fun q => absurd (e.symm.trans q) (by decide)) fun _ => zp_bind (zp_mono (c_isLast h6 n4 hk l01) fun r4 e4 => ?_)
  rcases kn with ⟨z, k0⟩ | ⟨o, kn⟩
  · refine zp_ite (fun q => absurd (e4.trans z) q) fun _ => zp_some (NO σ (fun _ _ => rfl) fun j hj ej => ?_)
    rw [one j hj ej, k0]
    decide
  have nmv := nmv o
  refine zp_ite (fun _ => zp_bind (zp_mono (c_load pc h6 n4 hk h1 st) fun r6 ⟨ld, fr⟩ => ?_)) fun q => absurd (by rw [e4, o]; decide) q
  have g : ∀ q, 82 ≤ q → r6 q = σ q := fun q hq => fr q (by omega) (by omega) (by omega) (by omega)
  have e42 : r6 4 2 = Int32.ofNat m := by rw [ld.1 4 (by decide) (by decide)]; exact pc.1.2.1
  have h36 : ∀ t, t < m → r6 36 t = row40 σ k (15 + 6 * t) := fun t ht => (ld.2.2.1 t ht).1
  refine zp_bind (zp_mono (c_isOver m4 e42) fun r7 h7 => ?_)
  rcases kn with ⟨k1, all⟩ | ⟨k2, t0, ht0, nt⟩
  · have over : ∀ t, t < m → GON (r6 36 t) := fun t ht => by rw [h36 t ht]; exact all t ht
    rcases h7 with ⟨_, no⟩ | ⟨e7, _⟩
    · exact absurd over no
    · refine zp_ite (fun q => absurd (e7.symm.trans q) (by decide)) fun _ => zp_some (NO r6 g fun j hj ej => ?_)
      rw [one j hj ej, k1]
      decide
  · rcases h7 with ⟨e7, _⟩ | ⟨_, all⟩
    · refine zp_ite (fun _ => ?_) fun q => absurd e7 q
      have bv : ∀ u, u < m → bl ρ (row40 σ k) u = -1 ∨ ∃ v, v < m ∧ bl ρ (row40 σ k) u = Int32.ofNat v := fun u hu => by
        by_cases v : row40 σ k (15 + 6 * u) = 1
        · obtain ⟨z, zl, es⟩ : ∃ z, z < len u ∧ row40 σ k (14 + 6 * u) = Int32.ofNat z := by
            rcases st.2.2.2.1 u hu with k | ⟨_, z, k1, k2⟩ | ⟨k, _⟩ | k
            · rw [v] at k; exact absurd k.1 (by decide)
            · exact ⟨z, k1, k2⟩
            · rw [v] at k; rcases k with k | k <;> exact absurd k (by decide)
            · rw [v] at k; exact absurd k.1 (by decide)
          have l24 := (pc.2.1 u hu).1
          by_cases c3 : ρ 7 (24 * u + z) = 3
          · obtain ⟨k92, _, _, _, nmd, _, _⟩ := pc.2.2.2.1 u z hu zl
            obtain ⟨l, hl, e8, _, _⟩ := nmd (Or.inl (k92.symm.trans c3))
            rw [bl_y v es (by omega) c3 e8 hl]
            rcases ld.2.2.2 l hl with ⟨_, o2⟩ | ⟨w, hw, _, o2⟩
            · rw [o2]; exact Or.inl (by decide)
            · rw [o2, zo_pred (by omega) (by omega), Nat.add_sub_cancel]; exact Or.inr ⟨w, hw, rfl⟩
          · exact Or.inl (bl_k es (by omega) c3)
        · exact Or.inl (bl_no v)
      have REF : ∀ v : Int32, (((∃ t k', t < m ∧ k' < m ∧ itr (bl ρ (row40 σ k)) t k' = Int32.ofNat t) ∧ v = 1) ∨ (¬ (∃ t k', t < m ∧ k' < m ∧ itr (bl ρ (row40 σ k)) t k' = Int32.ofNat t) ∧ (((∀ t, t < m → GON (row40 σ k (15 + 6 * t)) ∨ row40 σ k (15 + 6 * t) = 2) ∧ v = 2) ∨ (¬ (∀ t, t < m → GON (row40 σ k (15 + 6 * t)) ∨ row40 σ k (15 + 6 * t) = 2) ∧ v = 3)))) → zp (zf_M_stuck N r6 (Int32.ofNat k)) (fun s => v = s.1) := fun v hv => by
        have g82 := g 82 (by decide)
        have g54 : (zx_up r6 82 0 0) 82 54 = Int32.ofNat n := by rw [zx_up_same, zu_ne (by decide), g82]; exact h54
        unfold zf_M_stuck zf_M_isState
        refine zp_ite (fun _ => zp_bind (zp_bind (zp_mono (m_inN n4 (by rw [g54])) fun r1 k1 => zp_chk fun _ => zp_some ?_))) fun q => absurd (by rw [g82]; exact k53) q
        rcases k1 with ⟨_, no⟩ | ⟨e, _⟩
        · exact absurd (z_rg hk n4) no
        refine zp_ite (fun q => absurd (e.symm.trans q) (by decide)) fun _ => zp_chk fun _ => zp_ite (fun _ => zp_bind (zp_mono (m_load (b := 0) (n := 0) (s := k) (by omega)) fun μ hμ => ?_)) fun q => absurd (by rw [zo_n (by omega), g 113 (by decide)]; exact k2) q
        obtain ⟨f1, row⟩ := hμ
        have ex : ∀ i, i < 40 → μ 107 i = row40 σ k i := fun i hi => by
          rw [row i hi]
          unfold row40
          rw [zu_other (by decide), g 108 (by decide)]
        have pcm : PC m len nc ρ μ := pc.q (fun q hq => by rw [f1 q (by omega), zu_other (by omega)]; exact g q (by omega)) (by rw [f1 82 (by decide), zx_up_same, zu_ne (by decide), g82])
        refine zp_mono (m_stuckA pcm st ex bv) fun s hs => ?_
        rcases hv with ⟨p, e⟩ | ⟨p, ⟨p', e⟩ | ⟨p', e⟩⟩
        · rcases hs with ⟨_, s1⟩ | ⟨np, _⟩
          · rw [e, s1]
          · exact absurd p np
        · rcases hs with ⟨q, _⟩ | ⟨_, ⟨_, s1⟩ | ⟨q, _⟩⟩
          · exact absurd q p
          · rw [e, s1]
          · exact absurd p' q
        · rcases hs with ⟨q, _⟩ | ⟨_, ⟨q, _⟩ | ⟨_, s1⟩⟩
          · exact absurd q p
          · exact absurd q p'
          · rw [e, s1]
      have RG : (∃ t k', t < m ∧ k' < 4 ∧ itr (bl ρ (row40 σ k)) t k' = Int32.ofNat t) ↔ ∃ t k', t < m ∧ k' < m ∧ itr (bl ρ (row40 σ k)) t k' = Int32.ofNat t := by
        constructor
        · rintro ⟨t, k', ht, hk', e⟩
          obtain ⟨j, hj, e'⟩ := ring_same m4 ht bv ⟨k', hk', e⟩
          exact ⟨t, j, ht, hj, e'⟩
        · rintro ⟨t, k', ht, hk', e⟩
          exact ⟨t, k', ht, by omega, e⟩
      have WT : (∀ t, t < m → GON (r6 36 t) ∨ r6 36 t = 2) ↔ ∀ t, t < m → GON (row40 σ k (15 + 6 * t)) ∨ row40 σ k (15 + 6 * t) = 2 := by
        constructor
        · intro h t ht
          rw [← h36 t ht]
          exact h t ht
        · intro h t ht
          rw [h36 t ht]
          exact h t ht
      refine zp_bind (zp_mono (c_hasRing pc st ld nmv) fun r9 h9 => ?_)
      rcases h9 with ⟨e9, no⟩ | ⟨e9, yes⟩
      · rw [RG] at no
        refine zp_ite (fun _ => zp_bind (zp_mono (c_onlyWaits m4 e42) fun r11 h11 => ?_)) fun q => absurd e9 q
        rcases h11 with ⟨e11, n2⟩ | ⟨e11, y2⟩
        · rw [WT] at n2
          exact zp_ite (fun _ => zp_some (REF 3 (Or.inr ⟨no, Or.inr ⟨n2, rfl⟩⟩))) fun q => absurd e11 q
        · rw [WT] at y2
          exact zp_ite (fun q => absurd (e11.symm.trans q) (by decide)) fun _ => zp_some (REF 2 (Or.inr ⟨no, Or.inl ⟨y2, rfl⟩⟩))
      · rw [RG] at yes
        exact zp_ite (fun q => absurd (e9.symm.trans q) (by decide)) fun _ => zp_some (REF 1 (Or.inl ⟨yes, rfl⟩))
    · have := all t0 ht0
      rw [h36 t0 ht0] at this
      exact absurd this nt
