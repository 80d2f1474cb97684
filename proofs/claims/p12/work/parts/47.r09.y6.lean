-- both answer alike
set_option maxRecDepth 2000
theorem CLO.cg {E : Nat → Nat → Prop} {F F' C C' : Nat → Prop} {s : Nat} (e24 : ∀ x y, E x y → x < 24) (f : ∀ x, F x ↔ F' x) (c : ∀ x, x < 24 → (C x ↔ C' x)) : CLO E F C s ↔ CLO E F' C' s := by
  constructor
  · intro h S a b
    exact h S (fun x hx => a x ((f x).mp hx)) fun x y p q r => b x y p (fun w => q ((c x (e24 x y r)).mpr w)) r
  · intro h S a b
    exact h S (fun x hx => a x ((f x).mpr hx)) fun x y p q r => b x y p (fun w => q ((c x (e24 x y r)).mp w)) r
theorem LOW.and {a b : Int32} (ha : LOW a) : LOW (a &&& b) := fun i hi => by
  rw [Int32.toBitVec_and, BitVec.getLsbD_and, ha i hi]; rfl
theorem LOW.one : LOW 1 := LOW.shl (n := 0) (by decide)
def NEA (σ : zS) (len : Nat → Nat) (a b s : Nat) : Prop :=
  CLO (EDG σ len a) (fun s => s = 0 ∧ 0 < len a) (fun s => s < len a ∧ σ 7 (24 * a + s) = 11 ∧ σ 8 (24 * a + s) = Int32.ofNat b) s ∧
  ((a ≠ b ∧ σ 6 b = zJ_shl 1 (Int32.ofNat a)) → CLO (EDG σ len a) (fun s => ∃ x, x < len a ∧ (σ 7 (24 * a + x) = 10 ∧ σ 8 (24 * a + x) = Int32.ofNat b) ∧ EDG σ len a x s) (fun _ => False) s)
theorem p_stepsNear {N : Nat} {σ : zS} {len : Nat → Nat} {a b : Nat} (ha : a < 4) (hb : b < 4) (h5 : σ 5 a = Int32.ofNat (len a)) (hl : len a ≤ 24) (nw : NWC σ σ) : zp (zf_Judge_stepsNear N σ (Int32.ofNat a) (Int32.ofNat b)) (fun r => ∀ s, s < 24 → (bit r s ↔ NEA σ len a b s)) := by
  have e24 : ∀ x y, EDG σ len a x y → x < 24 := fun x y e => by have := e.1; omega
  have main : ∀ s0 : Int32, LOW s0 → (∀ x, (x < 24 ∧ bit s0 x) ↔ (x = 0 ∧ 0 < len a)) → zp (zb_Judge_stepsNear_16 N σ (Int32.ofNat a) (Int32.ofNat b) s0) (fun r => ∀ s, s < 24 → (bit r s ↔ NEA σ len a b s)) := by
    intro s0 l0 f0
    unfold zb_Judge_stepsNear_16
    refine zp_bind (zp_mono (p_stepsWith ha h5 hl) fun r3 h3 => zp_bind (zp_mono (p_spread (cut := r3) ha h5 hl nw l0) fun r4 h4 => ?_))
    have c4 : ∀ s, s < 24 → (bit r4 s ↔ CLO (EDG σ len a) (fun s => s = 0 ∧ 0 < len a) (fun s => s < len a ∧ σ 7 (24 * a + s) = 11 ∧ σ 8 (24 * a + s) = Int32.ofNat b) s) := fun s hs => by
      rw [h4.2 s hs]
      exact CLO.cg e24 f0 fun x hx => h3.2 x hx
    have no : ¬ (a ≠ b ∧ σ 6 b = zJ_shl 1 (Int32.ofNat a)) → ∀ s, s < 24 → (bit r4 s ↔ NEA σ len a b s) := fun n s hs => by
      rw [c4 s hs]
      exact ⟨fun w => ⟨w, fun q => absurd q n⟩, fun w => w.1⟩
    refine zp_ite (fun e => zp_some (no fun w => w.1 (zo_inj (by omega) (by omega) e.symm))) fun ne => ?_
    have nab : a ≠ b := fun e => ne (by rw [e])
    have st : zp (zf_Program_startersOf σ (Int32.ofNat b)) (fun r => r = σ 6 b) := by
      unfold zf_Program_startersOf
      refine zp_ite (fun q => ?_) fun _ => zp_ite (fun q => ?_) fun _ => zp_chk fun _ => zp_some (by rw [zo_n (by omega)])
      · have := (zo_lt (k := b) (j := 0) (by omega) (by omega)).mp q
        omega
      · have := (zo_le (k := 4) (j := b) (by omega) (by omega)).mp q
        omega
    refine zp_bind (zp_mono st fun r6 e6 => ?_)
    rw [e6]
    refine zp_ite (fun n => zp_some (no fun w => n w.2)) fun y => zp_bind (zp_mono (p_stepsWith ha h5 hl) fun r8 h8 => zp_bind (zp_mono (p_stepsAfter (v := r8) ha h5 hl nw) fun r9 h9 => zp_some fun s hs => ?_))
    rw [bit_and hs, c4 s hs, h9.2 s hs]
    have cc : CLO (EDG σ len a) (fun s => ∃ x, x < 24 ∧ bit r8 x ∧ EDG σ len a x s) (fun _ => False) s ↔ CLO (EDG σ len a) (fun s => ∃ x, x < len a ∧ (σ 7 (24 * a + x) = 10 ∧ σ 8 (24 * a + x) = Int32.ofNat b) ∧ EDG σ len a x s) (fun _ => False) s := by
      refine CLO.cg e24 (fun x => ?_) fun _ _ => Iff.rfl
      constructor
      · rintro ⟨z, z1, z2, z3⟩
        have w := (h8.2 z z1).mp z2
        exact ⟨z, w.1, w.2, z3⟩
      · rintro ⟨z, z1, z2, z3⟩
        exact ⟨z, by omega, (h8.2 z (by omega)).mpr ⟨z1, z2⟩, z3⟩
    rw [cc]
    exact ⟨fun w => ⟨w.1, fun _ => w.2⟩, fun w => ⟨w.1, w.2 ⟨nab, Classical.not_not.mp y⟩⟩⟩
  unfold zf_Judge_stepsNear
  refine zp_bind (zp_mono (p_X_lengthOf ha) fun r1 e1 => ?_)
  rw [e1, h5]
  refine zp_ite (fun z => main 0 LOW.zero fun x => ?_) fun z => main 1 LOW.one fun x => ?_
  · have l0 := (zo_le (k := len a) (j := 0) (by omega) (by omega)).mp z
    exact ⟨fun w => absurd w.2 (bit_zero w.1), fun w => by omega⟩
  · have l0 : 0 < len a := by
      have : ¬ len a ≤ 0 := fun w => z ((zo_le (k := len a) (j := 0) (by omega) (by omega)).mpr w)
      omega
    constructor
    · intro w; exact ⟨(bit_s0 ⟨x, w.1⟩).mp w.2, l0⟩
    · intro w
      rw [w.1]
      exact ⟨by decide, (bit_s0 ⟨0, by decide⟩).mpr rfl⟩
