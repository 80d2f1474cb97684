-- both answer alike
set_option maxRecDepth 2000
theorem p_M_in2 {σ : zS} {x y z : Int32} : zp (zf_M_in σ x y z) (fun r => (r = 1 ∧ y ≤ x ∧ x ≤ z) ∨ (r = 0 ∧ ¬ (y ≤ x ∧ x ≤ z))) := by
  refine zp_mono p_M_in fun r hr => ?_
  by_cases c : y ≤ x ∧ x ≤ z
  · rw [if_pos c] at hr; exact Or.inl ⟨hr, c⟩
  · rw [if_neg c] at hr; exact Or.inr ⟨hr, c⟩
theorem p_step {σ : zS} {x1 x2 x3 : Int32} (lo : (σ 2 13 = 0 ∧ σ 82 21 = 0) ∨ (σ 2 13 = 1 ∧ σ 82 21 = 1 ∧ PRW σ σ)) : zp (zf_X_step σ x1 x2 x3) (fun r => zp (zf_M_step σ x1 x2 x3) (fun s => r = s.1)) := by
  unfold zf_X_step zf_M_step
  rcases lo with ⟨a, b⟩ | ⟨a, b, c, len, h1, h2, h3, h4, h5, h6, h7, h8, _⟩
  · exact zp_ite (fun q => absurd a q) fun _ => zp_some (zp_ite (fun q => absurd b q) fun _ => zp_some rfl)
  · have a' : ¬ σ 2 13 = 0 := by rw [a]; decide
    have b' : ¬ σ 82 21 = 0 := by rw [b]; decide
    have e17 : (zx_up σ 82 0 0) 82 17 = Int32.ofNat (c 2) := by rw [zx_up_same, zu_ne (by decide)]; exact (h2 2 (by decide)).2
    have e90 : (zx_up σ 82 0 0) 90 = σ 90 := zu_other (by decide)
    refine zp_ite (fun _ => ?_) fun q => absurd a' q
    have isS : ∀ Q : Prop, (¬ (∃ t s : Nat, t < c 2 ∧ s < len t ∧ x1 = Int32.ofNat t ∧ x2 = Int32.ofNat s) → Q) → ((∃ t s : Nat, t < c 2 ∧ s < len t ∧ x1 = Int32.ofNat t ∧ x2 = Int32.ofNat s) → Q) → Q := fun Q u v => (Classical.em (∃ t s : Nat, t < c 2 ∧ s < len t ∧ x1 = Int32.ofNat t ∧ x2 = Int32.ofNat s)).elim v u
    have mIs : zp (zf_M_isStep (zx_up σ 82 0 0) x1 x2) (fun r => (r = 1 ∧ ∃ t s : Nat, t < c 2 ∧ s < len t ∧ x1 = Int32.ofNat t ∧ x2 = Int32.ofNat s) ∨ (r = 0 ∧ ¬ ∃ t s : Nat, t < c 2 ∧ s < len t ∧ x1 = Int32.ofNat t ∧ x2 = Int32.ofNat s)) := by
      unfold zf_M_isStep
      rw [e17, e90]
      refine zp_bind (zp_mono p_M_in2 fun r1 hr1 => zp_ite (fun q => zp_some (Or.inr ⟨rfl, ?_⟩)) fun q => zp_chk fun ck => zp_bind (zp_mono p_M_in2 fun r4 hr4 => zp_ite (fun w => zp_some (Or.inr ⟨rfl, ?_⟩)) fun w => zp_some (Or.inl ⟨rfl, ?_⟩)))
      · rintro ⟨t, s, ht, hs, e1, e2⟩
        rcases hr1 with ⟨hr, _⟩ | ⟨_, no⟩
        · rw [hr] at q; exact absurd q (by decide)
        · refine no ⟨by rw [e1]; exact (zo_le (k := 0) (j := t) (by omega) (by omega)).mpr (Nat.zero_le _), ?_⟩
          rw [e1, zo_pred (by omega) (by omega)]
          exact (zo_le (by omega) (by omega)).mpr (by omega)
      all_goals
        have in1 : 0 ≤ x1 ∧ x1 ≤ Int32.ofNat (c 2) - 1 := by
          rcases hr1 with ⟨_, h⟩ | ⟨hr, _⟩
          · exact h
          · exact absurd hr q
        have x1t : x1 = Int32.ofNat x1.toNatClampNeg := (zo_mk ck.1).symm
        have n4 : x1.toNatClampNeg < 4 := by
          have h := ck.2
          rw [x1t] at h
          have bnd := z_nat ck.1
          have h' : x1.toInt < 4 := Int32.lt_iff_toInt_lt.mp ck.2
          omega
        have c0 : 0 < c 2 := by
          by_cases z : 0 < c 2
          · exact z
          · have z0 : c 2 = 0 := by omega
            rw [z0] at in1
            have := Int32.le_trans in1.1 in1.2
            exact absurd this (by decide)
        have tl : x1.toNatClampNeg < c 2 := by
          have h := in1.2
          rw [x1t, zo_pred c0 (by omega)] at h
          have := (zo_le (k := x1.toNatClampNeg) (j := c 2 - 1) (by omega) (by omega)).mp h
          omega
        have e9 := (h3 _ tl).2.2
        have l24 := (h3 _ tl).1
        rw [e9] at hr4
      · rintro ⟨t, s, ht, hs, e1, e2⟩
        have et : x1.toNatClampNeg = t := by rw [e1, zo_n (by omega)]
        rcases hr4 with ⟨hr, _⟩ | ⟨_, no⟩
        · rw [hr] at w; exact absurd w (by decide)
        · rw [et] at no
          refine no ⟨by rw [e2]; exact (zo_le (k := 0) (j := s) (by have := (h3 t ht).1; omega) (by have := (h3 t ht).1; omega)).mpr (Nat.zero_le _), ?_⟩
          have := (h3 t ht).1
          rw [e2, zo_pred (by omega) (by omega)]
          exact (zo_le (by omega) (by omega)).mpr (by omega)
      · rcases hr4 with ⟨_, y0, y1⟩ | ⟨hr, _⟩
        · have x2t : x2 = Int32.ofNat x2.toNatClampNeg := (zo_mk y0).symm
          have l0 : 0 < len x1.toNatClampNeg := by
            by_cases z : 0 < len x1.toNatClampNeg
            · exact z
            · have z0 : len x1.toNatClampNeg = 0 := by omega
              rw [z0] at y1
              have := Int32.le_trans y0 y1
              exact absurd this (by decide)
          have y1' := y1
          rw [zo_pred l0 (by omega)] at y1'
          have bnd := z_nat y0
          have bi := Int32.le_iff_toInt_le.mp y1'
          rw [zo_ti (by omega)] at bi
          exact ⟨x1.toNatClampNeg, x2.toNatClampNeg, tl, by omega, x1t, x2t⟩
        · exact absurd hr w
    have xS : zp (zf_Program_slotOf σ x1 x2) (fun r => (∃ t s : Nat, t < c 2 ∧ s < len t ∧ x1 = Int32.ofNat t ∧ x2 = Int32.ofNat s ∧ r = Int32.ofNat (24 * t + s)) ∨ ((¬ ∃ t s : Nat, t < c 2 ∧ s < len t ∧ x1 = Int32.ofNat t ∧ x2 = Int32.ofNat s) ∧ r = 96)) := by
      refine isS _ (fun no => ?_) fun yes => ?_
      · intro r hr
        refine Or.inr ⟨no, ?_⟩
        unfold zf_Program_slotOf zb_Program_slotOf_33 zb_Program_slotOf_34 at hr
        by_cases c1 : x1 < 0
        · simp [c1] at hr; exact hr.symm
        by_cases c2 : 4 ≤ x1
        · simp [c1, c2] at hr; exact hr.symm
        by_cases c3 : x2 < 0
        · simp [c1, c2, c3] at hr; exact hr.symm
        by_cases c4 : 24 ≤ x2
        · simp [c1, c2, c3, c4] at hr; exact hr.symm
        have p1 : 0 ≤ x1 := Int32.not_lt.mp c1
        have p2 : 0 ≤ x2 := Int32.not_lt.mp c3
        have x1t : x1 = Int32.ofNat x1.toNatClampNeg := (zo_mk p1).symm
        have x2t : x2 = Int32.ofNat x2.toNatClampNeg := (zo_mk p2).symm
        have b1 := z_nat p1
        have b2 := z_nat p2
        have i1 : x1.toInt < 4 := Int32.lt_iff_toInt_lt.mp (Int32.not_le.mp c2)
        have i2 : x2.toInt < 24 := Int32.lt_iff_toInt_lt.mp (Int32.not_le.mp c4)
        have c5 : σ 5 x1.toNatClampNeg ≤ x2 := by
          by_cases tl : x1.toNatClampNeg < c 2
          · have l24 := (h3 _ tl).1
            rw [(h3 _ tl).2.1, x2t]
            refine (zo_le (by omega) (by omega)).mpr ?_
            by_cases w : len x1.toNatClampNeg ≤ x2.toNatClampNeg
            · exact w
            · exact absurd ⟨x1.toNatClampNeg, x2.toNatClampNeg, tl, by omega, x1t, x2t⟩ no
          · rw [h4 _ (by omega) (by omega)]; exact p2
        simp [c1, c2, c3, c4, c5, p1, Int32.not_le.mp c2] at hr
        exact hr.symm
      · obtain ⟨t, s, ht, hs, e1, e2⟩ := yes
        have l24 := (h3 t ht).1
        rw [e1, e2]
        refine zp_mono (p_X_slotOf (by omega) (by omega) (by rw [(h3 t ht).2.1]; exact (zo_lt (by omega) (by omega)).mpr hs)) fun r hr => Or.inl ⟨t, s, ht, hs, rfl, rfl, hr⟩
    refine zp_bind (zp_mono xS fun r2 h2' => ?_)
    rcases h2' with ⟨t, s, ht, hs, e1, e2, er⟩ | ⟨no, er⟩
    · have l24 := (h3 t ht).1
      have n96 : ¬ r2 = 96 := fun q => by
        have := zo_inj (k := 24 * t + s) (j := 96) (by omega) (by omega) (er.symm.trans q)
        omega
      obtain ⟨k1, k2, k3, k4, k5, k6, k7, k8⟩ := h7 t s ht hs
      have ref : ∀ {Q : Int32 × zS → Prop}, (∀ s0 : Int32, ((s0 = 1 ∧ named (σ 92 (24 * t + s))) ∨ (s0 = 0 ∧ ¬ named (σ 92 (24 * t + s)))) → zp (zb_M_step_93 (zx_up σ 82 0 0) x3 (Int32.ofNat (24 * t + s)) s0) Q) → zp (if ¬ (σ 82 21) = 0 then (zf_M_isStep (zx_up σ 82 0 0) x1 x2).bind fun r2 => if ¬ r2 = 0 then if 0 ≤ ((24 * x1) + x2) ∧ ((24 * x1) + x2) < 96 then if (σ 92 ((24 * x1) + x2).toNatClampNeg) = 0 then zb_M_step_88 (zx_up σ 82 0 0) x3 ((24 * x1) + x2) else if 0 ≤ ((24 * x1) + x2) ∧ ((24 * x1) + x2) < 96 then if (σ 92 ((24 * x1) + x2).toNatClampNeg) = 1 then zb_M_step_88 (zx_up σ 82 0 0) x3 ((24 * x1) + x2) else if 0 ≤ ((24 * x1) + x2) ∧ ((24 * x1) + x2) < 96 then (zf_M_in (zx_up σ 82 0 0) (σ 92 ((24 * x1) + x2).toNatClampNeg) 3 4).bind fun r26 => if ¬ r26 = 0 then zb_M_step_88 (zx_up σ 82 0 0) x3 ((24 * x1) + x2) else if 0 ≤ ((24 * x1) + x2) ∧ ((24 * x1) + x2) < 96 then (zf_M_in (zx_up σ 82 0 0) (σ 92 ((24 * x1) + x2).toNatClampNeg) 7 11).bind fun r29 => if r29 = 0 then zb_M_step_93 (zx_up σ 82 0 0) x3 ((24 * x1) + x2) 0 else zb_M_step_88 (zx_up σ 82 0 0) x3 ((24 * x1) + x2) else none else none else none else none else some ((-102), (zx_up σ 82 0 0)) else some ((-101), (zx_up σ 82 0 0))) Q := by
        intro Q h
        have sl := z24 (t := t) (L := s) (by omega) (by omega)
        refine zp_ite (fun _ => zp_bind (zp_mono mIs fun r hr => ?_)) fun q => absurd b' q
        rw [e1, e2, sl.2.2.2, zo_n (by omega)]
        have yes : ∀ k : Int32, σ 92 (24 * t + s) = k → named k → zp (zb_M_step_88 (zx_up σ 82 0 0) x3 (Int32.ofNat (24 * t + s))) Q := fun k e hk => by
          unfold zb_M_step_88
          exact h 1 (Or.inl ⟨rfl, by rw [e]; exact hk⟩)
        have ge : ∀ y z : Int32, y ≤ σ 92 (24 * t + s) → σ 92 (24 * t + s) ≤ z → (∀ k : Int32, y ≤ k → k ≤ z → named k) → zp (zb_M_step_88 (zx_up σ 82 0 0) x3 (Int32.ofNat (24 * t + s))) Q := fun y z a b hk => yes _ rfl (hk _ a b)
        refine zp_ite (fun _ => zp_chk fun _ => zp_ite (fun k => yes 0 k (Or.inl rfl)) fun n0 => zp_chk fun _ => zp_ite (fun k => yes 1 k (Or.inr (Or.inl rfl))) fun n1 => zp_chk fun _ => zp_bind (zp_mono p_M_in2 fun r26 h26 => zp_ite (fun w => ?_) fun w => zp_chk fun _ => zp_bind (zp_mono p_M_in2 fun r29 h29 => zp_ite (fun v => h 0 (Or.inr ⟨rfl, ?_⟩)) fun v => ?_))) fun q => ?_
        · rcases h26 with ⟨_, y⟩ | ⟨y, _⟩
          · exact ge 3 4 y.1 y.2 (by unfold named; intro k a b; grind)
          · exact absurd y w
        · have n34 : ¬ (3 ≤ σ 92 (24 * t + s) ∧ σ 92 (24 * t + s) ≤ 4) := by
            rcases h26 with ⟨y, _⟩ | ⟨_, y⟩
            · exact absurd (by rw [y]; decide) w
            · exact y
          have n711 : ¬ (7 ≤ σ 92 (24 * t + s) ∧ σ 92 (24 * t + s) ≤ 11) := by
            rcases h29 with ⟨y, _⟩ | ⟨_, y⟩
            · rw [y] at v; exact absurd v (by decide)
            · exact y
          unfold named
          clear h26 h29 k1 k2 k3 k4 k5 k6 k7 k8 h yes ge mIs xS hr
          generalize σ 92 (24 * t + s) = V at *
          grind
        · rcases h29 with ⟨_, y⟩ | ⟨y, _⟩
          · exact ge 7 11 y.1 y.2 (by unfold named; intro k a b; grind)
          · exact absurd y v
        · rcases hr with ⟨y, _⟩ | ⟨_, y⟩
          · exact absurd (by rw [y]; decide) q
          · exact absurd ⟨t, s, ht, hs, e1, e2⟩ y
      have u : ∀ q, q ≠ 82 → (zx_up σ 82 0 0) q = σ q := fun q hq => zu_other hq
      rw [er, zo_n (by omega)]
      unfold zb_M_step_93 zb_M_step_192 at ref
      rw [u 92 (by decide), u 93 (by decide), u 94 (by decide), u 95 (by decide), u 96 (by decide), u 97 (by decide), zo_n (by omega)] at ref
      refine zp_ite (fun _ => ?_) fun q => absurd (er ▸ n96) q
      refine zp_ite (fun x0 => zp_chk fun _ => zp_some (ref fun s0 hs0 => zp_ite (fun _ => zp_chk fun _ => zp_some k1) fun q => absurd x0 q)) fun x0 => zp_ite (fun xx1 => zp_chk fun _ => zp_some (ref fun s0 hs0 => zp_ite (fun q => absurd q x0) fun _ => zp_ite (fun _ => zp_ite (fun z => zp_some ?_) fun z => zp_chk fun _ => zp_some ?_) fun q => absurd xx1 q)) fun xx1 => zp_ite (fun xx2 => zp_chk fun _ => zp_some (ref fun s0 hs0 => zp_ite (fun q => absurd q x0) fun _ => zp_ite (fun q => absurd q xx1) fun _ => zp_ite (fun _ => zp_chk fun _ => zp_some k4) fun q => absurd xx2 q)) fun xx2 => zp_ite (fun xx3 => zp_chk fun _ => zp_some (ref fun s0 hs0 => zp_ite (fun q => absurd q x0) fun _ => zp_ite (fun q => absurd q xx1) fun _ => zp_ite (fun q => absurd q xx2) fun _ => zp_ite (fun _ => zp_chk fun _ => zp_ite (fun z => zp_chk fun _ => zp_some (k5 (Or.inl z))) fun z5 => zp_chk fun _ => zp_ite (fun z6 => zp_some (k6 fun w => w.elim z5 z6)) fun z6 => zp_chk fun _ => zp_some (k5 (Or.inr (Classical.not_not.mp z6)))) fun q => absurd xx3 q)) fun xx3 => zp_ite (fun xx4 => zp_chk fun _ => zp_some (ref fun s0 hs0 => zp_ite (fun q => absurd q x0) fun _ => zp_ite (fun q => absurd q xx1) fun _ => zp_ite (fun q => absurd q xx2) fun _ => zp_ite (fun q => absurd q xx3) fun _ => zp_ite (fun _ => zp_chk fun _ => zp_some k7) fun q => absurd xx4 q)) fun xx4 => zp_ite (fun xx5 => zp_chk fun _ => zp_some (ref fun s0 hs0 => zp_ite (fun q => absurd q x0) fun _ => zp_ite (fun q => absurd q xx1) fun _ => zp_ite (fun q => absurd q xx2) fun _ => zp_ite (fun q => absurd q xx3) fun _ => zp_ite (fun q => absurd q xx4) fun _ => zp_ite (fun _ => zp_chk fun _ => zp_some k8) fun q => absurd xx5 q)) fun xx5 => zp_some (ref fun s0 hs0 => zp_ite (fun q => absurd q x0) fun _ => zp_ite (fun q => absurd q xx1) fun _ => zp_ite (fun q => absurd q xx2) fun _ => zp_ite (fun q => absurd q xx3) fun _ => zp_ite (fun q => absurd q xx4) fun _ => zp_ite (fun q => absurd q xx5) fun _ => zp_some rfl)
      · rcases hs0 with ⟨w, _⟩ | ⟨_, w⟩
        · rw [w] at z; exact absurd z (by decide)
        · exact k3 w
      · rcases hs0 with ⟨_, w⟩ | ⟨w, _⟩
        · exact k2 w
        · exact absurd w z
    · refine zp_ite (fun q => absurd er q) fun _ => zp_some (zp_ite (fun _ => zp_bind (zp_mono mIs fun r hr => zp_ite (fun q => ?_) fun _ => zp_some rfl)) fun q => absurd b' q)
      rcases hr with ⟨_, w⟩ | ⟨w, _⟩
      · exact absurd w no
      · exact absurd w q
theorem p_step7 {σ : zS} {τ : zT} {x1 x2 x3 : Int32} (ev : EQV σ τ) : zp (zf_X_step σ x1 x2 x3) (fun r => zp (zf_M_step σ x1 x2 x3) (fun s => r = s.1)) := p_step ev.2.2.2
