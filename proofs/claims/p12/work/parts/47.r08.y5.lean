-- both answer alike
set_option maxRecDepth 2000
theorem p_stepsWith {N : Nat} {σ : zS} {len : Nat → Nat} {t : Nat} {k x : Int32} (ht : t < 4) (h5 : σ 5 t = Int32.ofNat (len t)) (hl : len t ≤ 24) : zp (zf_Judge_stepsWith N σ (Int32.ofNat t) k x) (fun r => LOW r ∧ ∀ s, s < 24 → (bit r s ↔ (s < len t ∧ σ 7 (24 * t + s) = k ∧ σ 8 (24 * t + s) = x))) := by
  unfold zf_Judge_stepsWith
  have go : ∀ (n q : Nat) (v4 : Int32), q ≤ len t → LOW v4 → (∀ s, s < 24 → (bit v4 s ↔ (s < q ∧ σ 7 (24 * t + s) = k ∧ σ 8 (24 * t + s) = x))) → zp (zb_Judge_stepsWith_6 N n σ (Int32.ofNat t) k x v4 (Int32.ofNat q)) (fun r => LOW r ∧ ∀ s, s < 24 → (bit r s ↔ (s < len t ∧ σ 7 (24 * t + s) = k ∧ σ 8 (24 * t + s) = x))) := by
    intro n
    induction n with
    | zero => intro _ _ _ _ _; exact zp_none
    | succ n ih =>
      intro q v4 hq l4 h
      rw [zb_Judge_stepsWith_6]
      unfold zb_Judge_stepsWith_68
      refine zp_bind (zp_mono (p_X_lengthOf ht) fun r1 e1 => ?_)
      rw [e1, h5]
      refine zp_ite (fun z => zp_some ?_) fun z => ?_
      · have ql : q = len t := by
          have := (zo_le (k := len t) (j := q) (by omega) (by omega)).mp z
          omega
        rw [ql] at h
        exact ⟨l4, h⟩
      · have ql : q < len t := by
          have : ¬ len t ≤ q := fun w => z ((zo_le (by omega) (by omega)).mpr w)
          omega
        have q24 : q < 24 := by omega
        refine zp_bind (zp_mono (p_X_slotOf ht q24 (by rw [h5]; exact (zo_lt (by omega) (by omega)).mpr ql)) fun r3 e3 => ?_)
        rw [e3, zo_n (by omega), zo_1 (by omega)]
        have skip : ¬ (σ 7 (24 * t + q) = k ∧ σ 8 (24 * t + q) = x) → zp (zb_Judge_stepsWith_6 N n σ (Int32.ofNat t) k x v4 (Int32.ofNat (q + 1))) (fun r => LOW r ∧ ∀ s, s < 24 → (bit r s ↔ (s < len t ∧ σ 7 (24 * t + s) = k ∧ σ 8 (24 * t + s) = x))) := fun no => by
          refine ih (q + 1) v4 (by omega) l4 fun s hs => ?_
          rw [h s hs]
          constructor
          · intro w; exact ⟨by omega, w.2⟩
          · intro w
            refine ⟨?_, w.2⟩
            by_cases c : s = q
            · rw [c] at w; exact absurd w.2 no
            · omega
        refine zp_chk fun _ => zp_ite (fun no => skip fun w => no w.1) fun y1 => zp_chk fun _ => zp_ite (fun no => skip fun w => no w.2) fun y2 => ?_
        refine ih (q + 1) _ (by omega) (l4.or (LOW.shl q24)) fun s hs => ?_
        rw [bit_or hs, bit_shl q24 hs, h s hs]
        constructor
        · rintro (w | w)
          · exact ⟨by omega, w.2⟩
          · rw [w]; exact ⟨by omega, Classical.not_not.mp y1, Classical.not_not.mp y2⟩
        · intro w
          by_cases c : s = q
          · exact Or.inr c
          · exact Or.inl ⟨by omega, w.2⟩
  exact go N 0 0 (Nat.zero_le _) LOW.zero fun s hs => ⟨fun w => absurd w (bit_zero hs), fun w => absurd w.1 (Nat.not_lt_zero _)⟩
theorem p_stepsAfter {N : Nat} {σ : zS} {len : Nat → Nat} {t : Nat} {v : Int32} (ht : t < 4) (h5 : σ 5 t = Int32.ofNat (len t)) (hl : len t ≤ 24) (nw : NWC σ σ) : zp (zf_Judge_stepsAfter N σ (Int32.ofNat t) v) (fun r => LOW r ∧ ∀ s, s < 24 → (bit r s ↔ CLO (EDG σ len t) (fun s => ∃ x, x < 24 ∧ bit v x ∧ EDG σ len t x s) (fun _ => False) s)) := by
  unfold zf_Judge_stepsAfter
  have go : ∀ (n q : Nat) (v3 : Int32), q ≤ 24 → LOW v3 → (∀ s, s < 24 → (bit v3 s ↔ ∃ x, x < q ∧ bit v x ∧ EDG σ len t x s)) → zp (zb_Judge_stepsAfter_5 N n σ (Int32.ofNat t) v v3 (Int32.ofNat q)) (fun r => LOW r ∧ ∀ s, s < 24 → (bit r s ↔ CLO (EDG σ len t) (fun s => ∃ x, x < 24 ∧ bit v x ∧ EDG σ len t x s) (fun _ => False) s)) := by
    intro n
    induction n with
    | zero => intro _ _ _ _ _; exact zp_none
    | succ n ih =>
      intro q v3 hq l3 h
      rw [zb_Judge_stepsAfter_5]
      unfold zb_Judge_stepsAfter_31
      refine zp_ite (fun z => ?_) fun z => ?_
      · have q24 : q = 24 := by
          have := (zo_le (k := 24) (j := q) (by omega) (by omega)).mp z
          omega
        subst q24
        refine zp_bind (zp_mono (p_spread (cut := 0) ht h5 hl nw l3) fun r hr => zp_some ⟨hr.1, fun s hs => ?_⟩)
        rw [hr.2 s hs]
        have f1 : ∀ x, (x < 24 ∧ bit v3 x) ↔ ∃ y, y < 24 ∧ bit v y ∧ EDG σ len t y x := fun x => by
          constructor
          · intro w; exact (h x w.1).mp w.2
          · rintro ⟨y, a, b, e⟩
            have x24 : x < 24 := by have := e.2.1; omega
            exact ⟨x24, (h x x24).mpr ⟨y, a, b, e⟩⟩
        have z0 : ∀ x, ¬ bit 0 x ∨ 24 ≤ x := fun x => by
          by_cases c : x < 24
          · exact Or.inl (bit_zero c)
          · exact Or.inr (by omega)
        constructor
        · intro w S a b
          exact w S (fun x hx => a x ((f1 x).mp hx)) fun x y p q e => b x y p (fun w => w.elim) e
        · intro w S a b
          exact w S (fun x hx => a x ((f1 x).mpr hx)) fun x y p _ e => b x y p ((z0 x).resolve_right (by have := e.1; omega)) e
      · have q24 : q < 24 := by
          have : ¬ 24 ≤ q := fun w => z ((zo_le (k := 24) (j := q) (by omega) (by omega)).mpr w)
          omega
        rw [zo_1 (by omega)]
        refine zp_ite (fun no => ih (q + 1) v3 (by omega) l3 fun s hs => ?_) fun yes => zp_bind (zp_mono (zp_and (p_behind ht q24 h5 hl nw) (p_behindL (len := len) ht h5 hl)) fun r4 hr => ih (q + 1) _ (by omega) (l3.or hr.2) fun s hs => ?_)
        · rw [h s hs]
          constructor
          · rintro ⟨x, a, b⟩; exact ⟨x, by omega, b⟩
          · rintro ⟨x, a, b, e⟩
            refine ⟨x, ?_, b, e⟩
            by_cases c : x = q
            · rw [c] at b; exact absurd no b
            · omega
        · rw [bit_or hs, h s hs, hr.1 s hs]
          constructor
          · rintro (⟨x, a, b⟩ | e)
            · exact ⟨x, by omega, b⟩
            · exact ⟨q, by omega, yes, e⟩
          · rintro ⟨x, a, b, e⟩
            by_cases c : x = q
            · rw [c] at e; exact Or.inr e
            · exact Or.inl ⟨x, by omega, b, e⟩
  exact go N 0 0 (Nat.zero_le _) LOW.zero fun s hs => ⟨fun w => absurd w (bit_zero hs), fun ⟨x, a, _⟩ => absurd a (Nat.not_lt_zero _)⟩
