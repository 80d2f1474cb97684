-- both answer alike
set_option maxRecDepth 2000
theorem m_isOutcome {N m c0 a b : Nat} {μ : zS} (m4 : m ≤ 4) (c6 : c0 ≤ 6) (e15 : μ 82 15 = Int32.ofNat c0) (e17 : μ 82 17 = Int32.ofNat m) (ha : a < 4000) (hb : b < 4000) : zp (zf_M_isOutcome N μ (Int32.ofNat a) (Int32.ofNat b)) (fun r => ANQ (OEQ m c0 (row40 μ a) (row40 μ b)) r) := by
  have ix : ∀ s t : Nat, s < 4000 → t < 4 → ((40 * Int32.ofNat s) + Int32.ofNat (14 + 6 * t)) + 1 = Int32.ofNat (40 * s + (15 + 6 * t)) := fun s t hs ht => by
    rw [zo_mul40 (s := s) (i := 14 + 6 * t) (by omega) (by omega)]
    show Int32.ofNat (40 * s + (14 + 6 * t)) + Int32.ofNat 1 = _
    rw [← Int32.ofNat_add, show 40 * s + (14 + 6 * t) + 1 = 40 * s + (15 + 6 * t) by omega]
  have thr : ∀ (n t : Nat) (v3 v4 v5 : Int32), t ≤ m → ANQ ((∀ f, f < c0 → row40 μ a f = row40 μ b f) ∧ ∀ u, u < t → (row40 μ a (15 + 6 * u) = 5 ↔ row40 μ b (15 + 6 * u) = 5)) v3 → ANQ (¬ ∀ u, u < t → GON (row40 μ a (15 + 6 * u))) v4 → ANQ (¬ ∀ u, u < t → GON (row40 μ b (15 + 6 * u))) v5 → zp (zb_M_isOutcome_66 N n μ (Int32.ofNat a) (Int32.ofNat b) v3 v4 v5 (Int32.ofNat t)) (fun r => ANQ (OEQ m c0 (row40 μ a) (row40 μ b)) r) := by
    intro n
    induction n with
    | zero => intro _ _ _ _ _ _ _ _; exact zp_none
    | succ n ih =>
      intro t v3 v4 v5 ht h3 h4 h5
      rw [zb_M_isOutcome_66, e17]
      unfold zf_M_at
      refine zp_ite (fun q => ?_) fun q => ?_
      · have tm : t = m := by
          have := (zo_le (k := m) (j := t) (by omega) (by omega)).mp q
          omega
        subst tm
        rcases h3 with ⟨e, no⟩ | ⟨e, yes⟩
        · exact zp_ite (fun _ => zp_some (Or.inl ⟨rfl, fun o => no ⟨o.1, o.2.1⟩⟩)) fun z => absurd e z
        · refine zp_ite (fun z => absurd (e.symm.trans z) (by decide)) fun _ => zp_ite (fun ne => zp_some (Or.inl ⟨rfl, fun o => ne ?_⟩)) fun eq => zp_some (Or.inr ⟨rfl, yes.1, yes.2, ?_⟩)
          · rcases h4 with ⟨a4, b4⟩ | ⟨a4, b4⟩
            · rcases h5 with ⟨a5, _⟩ | ⟨a5, b5⟩
              · rw [a4, a5]
              · exact absurd (o.2.2.mp (Classical.not_not.mp b4)) b5
            · rcases h5 with ⟨a5, b5⟩ | ⟨a5, _⟩
              · exact absurd (o.2.2.mpr (Classical.not_not.mp b5)) b4
              · rw [a4, a5]
          · have eq := Classical.not_not.mp eq
            rcases h4 with ⟨a4, b4⟩ | ⟨a4, b4⟩
            · rcases h5 with ⟨_, b5⟩ | ⟨a5, _⟩
              · exact ⟨fun _ => Classical.not_not.mp b5, fun _ => Classical.not_not.mp b4⟩
              · rw [a4, a5] at eq; exact absurd eq (by decide)
            · rcases h5 with ⟨a5, _⟩ | ⟨_, b5⟩
              · rw [a4, a5] at eq; exact absurd eq (by decide)
              · exact ⟨fun k => absurd k b4, fun k => absurd k b5⟩
      · have lt : t < m := by
          by_cases c : t < m
          · exact c
          · exact absurd ((zo_le (k := m) (j := t) (by omega) (by omega)).mpr (by omega)) q
        have t4 : t < 4 := by omega
        rw [zo_at t4]
        refine zp_bind (zp_some ?_)
        rw [ix a t ha t4, zo_nb (m := 40 * a + (15 + 6 * t)) (by omega)]
        refine zp_chk fun _ => zp_bind (zp_some ?_)
        rw [ix b t hb t4, zo_nb (m := 40 * b + (15 + 6 * t)) (by omega)]
        have suc : ∀ (P : Nat → Prop), (∀ u, u < t + 1 → P u) ↔ ((∀ u, u < t → P u) ∧ P t) := fun P => by
          constructor
          · intro h; exact ⟨fun u hu => h u (by omega), h t (by omega)⟩
          · intro h u hu
            by_cases c : u = t
            · rw [c]; exact h.2
            · exact h.1 u (by omega)
        have over : ∀ (x : Nat → Int32) (v : Int32), ANQ (¬ ∀ u, u < t → GON (x (15 + 6 * u))) v → (¬ v = 0 → ¬ ∀ u, u < t + 1 → GON (x (15 + 6 * u))) ∧ (v = 0 → GON (x (15 + 6 * t)) → ∀ u, u < t + 1 → GON (x (15 + 6 * u))) ∧ (¬ GON (x (15 + 6 * t)) → ¬ ∀ u, u < t + 1 → GON (x (15 + 6 * u))) := fun x v h => by
          refine ⟨fun nz k => ?_, fun z g => ?_, fun g k => g (k t (by omega))⟩
          · rcases h with ⟨e, _⟩ | ⟨_, no⟩
            · exact nz e
            · exact no fun u hu => k u (by omega)
          · rcases h with ⟨_, yes⟩ | ⟨e, _⟩
            · exact (suc _).mpr ⟨Classical.not_not.mp yes, g⟩
            · exact absurd (e.symm.trans z) (by decide)
        have fin : ∀ v3' : Int32, ANQ ((∀ f, f < c0 → row40 μ a f = row40 μ b f) ∧ ∀ u, u < t + 1 → (row40 μ a (15 + 6 * u) = 5 ↔ row40 μ b (15 + 6 * u) = 5)) v3' → zp (zb_M_isOutcome_149 (zb_M_isOutcome_66 N n) N μ (Int32.ofNat a) (Int32.ofNat b) v4 v5 (Int32.ofNat t) (row40 μ a (15 + 6 * t)) (row40 μ b (15 + 6 * t)) v3') (fun r => ANQ (OEQ m c0 (row40 μ a) (row40 μ b)) r) := fun v3' h3' => by
          have two : ∀ v4' : Int32, ANQ (¬ ∀ u, u < t + 1 → GON (row40 μ a (15 + 6 * u))) v4' → zp (zb_M_isOutcome_177 (zb_M_isOutcome_66 N n) N μ (Int32.ofNat a) (Int32.ofNat b) v3' v5 (Int32.ofNat t) (row40 μ b (15 + 6 * t)) v4') (fun r => ANQ (OEQ m c0 (row40 μ a) (row40 μ b)) r) := fun v4' h4' => by
            obtain ⟨o1, o2, o3⟩ := over (row40 μ b) v5 h5
            unfold zb_M_isOutcome_177 zb_M_isOutcome_201 zb_M_isOutcome_205 zb_M_isOutcome_206
            rw [zo_1 (m := t) (by omega)]
            refine zp_ite (fun nz => ih (t + 1) v3' v4' 1 (by omega) h3' h4' (Or.inr ⟨rfl, o1 nz⟩)) fun z => ?_
            have z := Classical.not_not.mp z
            exact zp_ite (fun k => ih (t + 1) v3' v4' 0 (by omega) h3' h4' (Or.inl ⟨rfl, fun n => n (o2 z (Or.inl k))⟩)) fun k4 => zp_ite (fun k => ih (t + 1) v3' v4' 0 (by omega) h3' h4' (Or.inl ⟨rfl, fun n => n (o2 z (Or.inr (Or.inl k)))⟩)) fun k5 => zp_ite (fun k => ih (t + 1) v3' v4' 0 (by omega) h3' h4' (Or.inl ⟨rfl, fun n => n (o2 z (Or.inr (Or.inr k)))⟩)) fun k0 => ih (t + 1) v3' v4' 1 (by omega) h3' h4' (Or.inr ⟨rfl, o3 fun g => g.elim k4 fun g => g.elim k5 k0⟩)
          obtain ⟨o1, o2, o3⟩ := over (row40 μ a) v4 h4
          unfold zb_M_isOutcome_149 zb_M_isOutcome_172 zb_M_isOutcome_176
          refine zp_ite (fun nz => two 1 (Or.inr ⟨rfl, o1 nz⟩)) fun z => ?_
          have z := Classical.not_not.mp z
          exact zp_ite (fun k => two 0 (Or.inl ⟨rfl, fun n => n (o2 z (Or.inl k))⟩)) fun k4 => zp_ite (fun k => two 0 (Or.inl ⟨rfl, fun n => n (o2 z (Or.inr (Or.inl k)))⟩)) fun k5 => zp_ite (fun k => two 0 (Or.inl ⟨rfl, fun n => n (o2 z (Or.inr (Or.inr k)))⟩)) fun k0 => two 1 (Or.inr ⟨rfl, o3 fun g => g.elim k4 fun g => g.elim k5 k0⟩)
        have bad : (¬ (row40 μ a (15 + 6 * t) = 5 ↔ row40 μ b (15 + 6 * t) = 5) ∨ v3 = 0) → ANQ ((∀ f, f < c0 → row40 μ a f = row40 μ b f) ∧ ∀ u, u < t + 1 → (row40 μ a (15 + 6 * u) = 5 ↔ row40 μ b (15 + 6 * u) = 5)) 0 := fun h => Or.inl ⟨rfl, fun k => by
          rcases h with h | h
          · exact h (k.2 t (by omega))
          · rcases h3 with ⟨_, no⟩ | ⟨e, _⟩
            · exact no ⟨k.1, fun u hu => k.2 u (by omega)⟩
            · exact absurd (e.symm.trans h) (by decide)⟩
        have good : (row40 μ a (15 + 6 * t) = 5 ↔ row40 μ b (15 + 6 * t) = 5) → ¬ v3 = 0 → ANQ ((∀ f, f < c0 → row40 μ a f = row40 μ b f) ∧ ∀ u, u < t + 1 → (row40 μ a (15 + 6 * u) = 5 ↔ row40 μ b (15 + 6 * u) = 5)) 1 := fun h nz => by
          rcases h3 with ⟨e, _⟩ | ⟨_, yes⟩
          · exact absurd e nz
          · exact Or.inr ⟨rfl, yes.1, (suc _).mpr ⟨yes.2, h⟩⟩
        unfold zb_M_isOutcome_130 zb_M_isOutcome_141 zb_M_isOutcome_148
        refine zp_chk fun _ => zp_ite (fun z => fin 0 (bad (Or.inr z))) fun nz => zp_ite (fun n1 => zp_ite (fun n2 => zp_ite (fun q => absurd rfl q) fun _ => fin 1 (good ⟨fun k => absurd k n1, fun k => absurd k n2⟩ nz)) fun y2 => zp_ite (fun _ => fin 0 (bad (Or.inl fun k => n1 (k.mpr (Classical.not_not.mp y2))))) fun q => absurd q (by decide)) fun y1 => zp_ite (fun n2 => zp_ite (fun _ => fin 0 (bad (Or.inl fun k => n2 (k.mp (Classical.not_not.mp y1))))) fun q => absurd q (by decide)) fun y2 => zp_ite (fun q => absurd rfl q) fun _ => fin 1 (good ⟨fun _ => Classical.not_not.mp y2, fun _ => Classical.not_not.mp y1⟩ nz)
  have fld : ∀ (n f : Nat) (v3 : Int32), f ≤ c0 → ANQ (∀ g, g < f → row40 μ a g = row40 μ b g) v3 → zp (zb_M_isOutcome_5 N n μ (Int32.ofNat a) (Int32.ofNat b) v3 (Int32.ofNat f)) (fun r => ANQ (OEQ m c0 (row40 μ a) (row40 μ b)) r) := by
    intro n
    induction n with
    | zero => intro _ _ _ _; exact zp_none
    | succ n ih =>
      intro f v3 hf h3
      rw [zb_M_isOutcome_5, e15]
      unfold zb_M_isOutcome_49 zb_M_isOutcome_50
      refine zp_ite (fun q => ?_) fun q => ?_
      · have fc : f = c0 := by
          have := (zo_le (k := c0) (j := f) (by omega) (by omega)).mp q
          omega
        subst fc
        refine thr N 0 v3 0 0 (by omega) ?_ (Or.inl ⟨rfl, fun n => n fun u hu => absurd hu (Nat.not_lt_zero _)⟩) (Or.inl ⟨rfl, fun n => n fun u hu => absurd hu (Nat.not_lt_zero _)⟩)
        rcases h3 with ⟨e, no⟩ | ⟨e, yes⟩
        · exact Or.inl ⟨e, fun k => no k.1⟩
        · exact Or.inr ⟨e, yes, fun u hu => absurd hu (Nat.not_lt_zero _)⟩
      · have lt : f < c0 := by
          by_cases c : f < c0
          · exact c
          · exact absurd ((zo_le (k := c0) (j := f) (by omega) (by omega)).mpr (by omega)) q
        rw [zo_1 (m := f) (by omega), zo_mul40 (s := a) (i := f) (by omega) (by omega), zo_mul40 (s := b) (i := f) (by omega) (by omega), zo_nb (m := 40 * a + f) (by omega), zo_nb (m := 40 * b + f) (by omega)]
        refine zp_ite (fun z => ih (f + 1) 0 (by omega) (Or.inl ⟨rfl, fun k => ?_⟩)) fun nz => zp_chk fun _ => zp_chk fun _ => zp_ite (fun ne => ih (f + 1) 0 (by omega) (Or.inl ⟨rfl, fun k => ne (k f (by omega))⟩)) fun eq => ih (f + 1) 1 (by omega) ?_
        · rcases h3 with ⟨_, no⟩ | ⟨e, _⟩
          · exact no fun g hg => k g (by omega)
          · exact absurd (e.symm.trans z) (by decide)
        · rcases h3 with ⟨e, _⟩ | ⟨_, yes⟩
          · exact absurd e nz
          · refine Or.inr ⟨rfl, fun g hg => ?_⟩
            by_cases c : g = f
            · rw [c]; exact Classical.not_not.mp eq
            · exact yes g (by omega)
  unfold zf_M_isOutcome
  exact fld N 0 1 (by omega) (Or.inr ⟨rfl, fun g hg => absurd hg (Nat.not_lt_zero _)⟩)
