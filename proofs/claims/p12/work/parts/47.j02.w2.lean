-- both answer alike
set_option maxRecDepth 2000
abbrev bit (v : Int32) (s : Nat) : Prop := ¬ ((zJ_ushr v (Int32.ofNat s)) &&& 1) = 0
theorem bit_sh : ∀ s : Fin 24, (((Int32.ofNat s.val).toUInt32 &&& Int32.toUInt32 31).toBitVec % 32).toNat = s.val := by decide +kernel
theorem bit_and1 (x : Int32) : x &&& 1 = 0 ↔ x.toBitVec.getLsbD 0 = false := by
  constructor
  · intro h
    have e : (x &&& 1).toBitVec.getLsbD 0 = false := by rw [h]; rfl
    rw [Int32.toBitVec_and, BitVec.getLsbD_and] at e
    have k : (1 : Int32).toBitVec.getLsbD 0 = true := rfl
    rw [k, Bool.and_true] at e
    exact e
  · intro h
    apply Int32.toBitVec_inj.mp
    rw [Int32.toBitVec_and]
    apply BitVec.eq_of_getLsbD_eq
    intro i hi
    rw [BitVec.getLsbD_and]
    have z : (0 : Int32).toBitVec.getLsbD i = false := by
      show (0#32).getLsbD i = false
      exact BitVec.getLsbD_zero
    rw [z]
    by_cases e : i = 0
    · rw [e, h, Bool.false_and]
    · have o : (1 : Int32).toBitVec.getLsbD i = false := by
        show (1#32).getLsbD i = false
        rw [BitVec.getLsbD_one]
        have e' : ¬ 0 = i := fun h => e h.symm
        simp [e, e']
      rw [o, Bool.and_false]
theorem bit_iff {v : Int32} {s : Nat} (hs : s < 24) : bit v s ↔ v.toBitVec.getLsbD s = true := by
  have U : (zJ_ushr v (Int32.ofNat s)).toBitVec = v.toBitVec >>> s := by
    unfold zJ_ushr
    show (v.toUInt32 >>> ((Int32.ofNat s).toUInt32 &&& Int32.toUInt32 31)).toBitVec = _
    rw [UInt32.toBitVec_shiftRight]
    have b := bit_sh ⟨s, hs⟩
    dsimp only at b
    show v.toBitVec >>> (((Int32.ofNat s).toUInt32 &&& Int32.toUInt32 31).toBitVec % 32).toNat = v.toBitVec >>> s
    rw [b]
  unfold bit
  rw [bit_and1, U, BitVec.getLsbD_ushiftRight, Nat.add_zero, Bool.not_eq_false]
theorem bit_zero {s : Nat} (hs : s < 24) : ¬ bit 0 s := by
  rw [bit_iff hs]
  intro h
  have z : (0 : Int32).toBitVec.getLsbD s = false := by
    show (0#32).getLsbD s = false
    exact BitVec.getLsbD_zero
  rw [z] at h
  cases h
theorem bit_or {a b : Int32} {s : Nat} (hs : s < 24) : bit (a ||| b) s ↔ (bit a s ∨ bit b s) := by
  rw [bit_iff hs, bit_iff hs, bit_iff hs, Int32.toBitVec_or, BitVec.getLsbD_or, Bool.or_eq_true]
theorem bit_one : ∀ k : Fin 24, ∀ s : Fin 24, bit (zJ_shl 1 (Int32.ofNat k.val)) s.val ↔ s.val = k.val := by decide +kernel
theorem bit_shl {k s : Nat} (hk : k < 24) (hs : s < 24) : bit (zJ_shl 1 (Int32.ofNat k)) s ↔ s = k := bit_one ⟨k, hk⟩ ⟨s, hs⟩
def RWB (t s : Nat) (x b : Int32) (o r : Nat → Int32) : Prop := ∀ j, ((24 * t ≤ j ∧ j < 24 * t + s ∧ bit b (j - 24 * t)) → r j = x) ∧ (¬ (24 * t ≤ j ∧ j < 24 * t + s ∧ bit b (j - 24 * t)) → r j = o j)
theorem RWB.yes {t s : Nat} {x b : Int32} {o r : Nat → Int32} (h : RWB t s x b o r) (hb : bit b s) : RWB t (s + 1) x b o (zu r (24 * t + s) x) := by
  intro j
  by_cases e : j = 24 * t + s
  · subst e
    rw [zu_eq]
    refine ⟨fun _ => rfl, fun n => absurd ⟨by omega, by omega, ?_⟩ n⟩
    rw [show 24 * t + s - 24 * t = s by omega]; exact hb
  · rw [zu_ne e]
    exact ⟨fun c => (h j).1 ⟨c.1, by omega, c.2.2⟩, fun c => (h j).2 fun d => c ⟨d.1, by omega, d.2.2⟩⟩
theorem RWB.no {t s : Nat} {x b : Int32} {o r : Nat → Int32} (h : RWB t s x b o r) (hb : ¬ bit b s) : RWB t (s + 1) x b o r := by
  intro j
  refine ⟨fun c => (h j).1 ⟨c.1, ?_, c.2.2⟩, fun c => (h j).2 fun d => c ⟨d.1, by omega, d.2.2⟩⟩
  by_cases e : j = 24 * t + s
  · subst e
    rw [show 24 * t + s - 24 * t = s by omega] at c
    exact absurd c.2.2 hb
  · omega
def CO1 (t : Nat) (x : Int32) (ρ r : zS) : Prop := CO0 ρ r ∧ r 29 9 = 0 ∧ r 29 10 = 0 ∧ RWB t 24 x (ρ 29 9) (ρ 9) (r 9) ∧ RWB t 24 x (ρ 29 10) (ρ 10) (r 10)
theorem p_X_closeOpen1 {N t : Nat} {ρ : zS} {x : Int32} (h8 : ρ 29 8 = Int32.ofNat t) (ht : t < 4) : zp (zf_Weaver_closeOpen N ρ x) (fun r => CO1 t x ρ r) := by
  unfold zf_Weaver_closeOpen
  have go : ∀ (n s : Nat) (r : zS), s ≤ 24 → (∀ q, q ≠ 9 → q ≠ 10 → r q = ρ q) → RWB t s x (ρ 29 9) (ρ 9) (r 9) → RWB t s x (ρ 29 10) (ρ 10) (r 10) → zp (zb_Weaver_closeOpen_2 N n r x (Int32.ofNat s)) (fun r => CO1 t x ρ r) := by
    intro n
    induction n with
    | zero => intro _ _ _ _ _ _; exact zp_none
    | succ n ih =>
      intro s r hs fr h9 h10
      have e29 : r 29 = ρ 29 := fr 29 (by decide) (by decide)
      rw [zb_Weaver_closeOpen_2, e29, h8]
      refine zp_ite (fun q => zp_some ?_) fun q => ?_
      · have s24 : s = 24 := by
          have := (zo_le (k := 24) (j := s) (by omega) (by omega)).mp q
          omega
        subst s24
        refine ⟨⟨fun q a b c => by rw [zu_other c, zu_other c]; exact fr q a b, fun i a b => by rw [zx_up_same, zu_ne b, zx_up_same, zu_ne a, e29]⟩, by rw [zx_up_same, zu_ne (by decide), zx_up_same, zu_eq], by rw [zx_up_same, zu_eq], ?_, ?_⟩
        · rw [zu_other (by decide), zu_other (by decide)]; exact h9
        · rw [zu_other (by decide), zu_other (by decide)]; exact h10
      · have lt : s < 24 := by
          have : ¬ 24 ≤ s := fun w => q ((zo_le (k := 24) (j := s) (by omega) (by omega)).mpr w)
          omega
        have sl := z24 ht (show s ≤ 24 by omega)
        rw [sl.2.2.1]
        have A : ∀ r', (∀ q, q ≠ 9 → q ≠ 10 → r' q = ρ q) → RWB t (s + 1) x (ρ 29 9) (ρ 9) (r' 9) → RWB t (s + 1) x (ρ 29 10) (ρ 10) (r' 10) → zp (zb_Weaver_closeOpen_70 (zb_Weaver_closeOpen_2 N n) N r' x (Int32.ofNat s)) (fun r => CO1 t x ρ r) := fun r' a b c => by
          unfold zb_Weaver_closeOpen_70
          rw [zo_1 (by omega)]
          exact ih (s + 1) r' (by omega) a b c
        have B : ∀ r', (∀ q, q ≠ 9 → q ≠ 10 → r' q = ρ q) → RWB t (s + 1) x (ρ 29 9) (ρ 9) (r' 9) → RWB t s x (ρ 29 10) (ρ 10) (r' 10) → zp (zb_Weaver_closeOpen_49 (zb_Weaver_closeOpen_2 N n) N r' x (Int32.ofNat s) (Int32.ofNat (24 * t + s))) (fun r => CO1 t x ρ r) := fun r' a b c => by
          unfold zb_Weaver_closeOpen_49
          rw [a 29 (by decide) (by decide), zo_n (by omega)]
          refine zp_ite (fun z => A r' a b (c.no fun y => y z)) fun z => zp_chk fun _ => A _ (fun q u v => by rw [zu_other v]; exact a q u v) (by rw [zu_other (by decide)]; exact b) (by rw [zx_up_same]; exact c.yes z)
        refine zp_ite (fun z => ?_) fun _ => zp_ite (fun z => ?_) fun _ => zp_ite (fun z => B r fr (h9.no fun y => y z) h10) fun z => zp_chk fun _ => ?_
        · have := (zo_lt (k := 24 * t + s) (j := 0) (by omega) (by omega)).mp z
          omega
        · have := (zo_le (k := 96) (j := 24 * t + s) (by omega) (by omega)).mp z
          omega
        · rw [zo_n (by omega)]
          exact B _ (fun q u v => by rw [zu_other u]; exact fr q u v) (by rw [zx_up_same]; exact h9.yes z) (by rw [zu_other (by decide)]; exact h10)
  exact go N 0 ρ (by omega) (fun _ _ _ => rfl) (fun j => ⟨fun c => by omega, fun _ => rfl⟩) (fun j => ⟨fun c => by omega, fun _ => rfl⟩)
def EW (t L : Nat) (ρ r : zS) : Prop :=
  (r 9 (24 * t + L) = -1 ∧ ∀ j, j ≠ 24 * t + L → ((24 * t ≤ j ∧ j < 24 * t + 24 ∧ bit (ρ 29 9) (j - 24 * t)) → r 9 j = Int32.ofNat L) ∧ (¬ (24 * t ≤ j ∧ j < 24 * t + 24 ∧ bit (ρ 29 9) (j - 24 * t)) → r 9 j = ρ 9 j)) ∧
  (r 10 (24 * t + L) = -1 ∧ ∀ j, j ≠ 24 * t + L → ((24 * t ≤ j ∧ j < 24 * t + 24 ∧ bit (ρ 29 10) (j - 24 * t)) → r 10 j = Int32.ofNat L) ∧ (¬ (24 * t ≤ j ∧ j < 24 * t + 24 ∧ bit (ρ 29 10) (j - 24 * t)) → r 10 j = ρ 10 j)) ∧
  r 29 9 = zJ_shl 1 (Int32.ofNat L) ∧ r 29 10 = 0
theorem p_X_emitW {N : Nat} {ρ : zS} {k x : Int32} {t L : Nat} (h8 : ρ 29 8 = Int32.ofNat t) (ht : t < 4) (h5 : ρ 5 t = Int32.ofNat L) (hL : L < 24) : zp (zf_Weaver_emit N ρ k x) (fun r => EW t L ρ r) := by
  unfold zf_Weaver_emit
  rw [h8]
  refine zp_bind (zp_mono (p_X_lengthOf ht) fun r1 e1 => ?_)
  rw [e1, h5]
  refine zp_bind (zp_mono (p_X_closeOpen1 h8 ht) fun r2 co => ?_)
  obtain ⟨c, c9, c10, w9, w10⟩ := co
  have e8 : r2 29 8 = Int32.ofNat t := by rw [c.2 8 (by decide) (by decide)]; exact h8
  have e5 : r2 5 t = Int32.ofNat L := by rw [c.1 5 (by decide) (by decide) (by decide)]; exact h5
  rw [e8]
  unfold zf_Program_addStep
  rw [zo_n (by omega), e5, (z24 ht (by omega)).1]
  refine zp_bind (zp_ite (fun d => ?_) fun _ => zp_ite (fun d => ?_) fun _ => zp_chk fun _ => zp_ite (fun d => ?_) fun _ => zp_chk fun _ => zp_ite (fun _ => ?_) fun d => ?_)
  · have := (zo_lt (k := t) (j := 0) (by omega) (by omega)).mp d
    omega
  · have := (zo_le (k := 4) (j := t) (by omega) (by omega)).mp d
    omega
  · have := (zo_lt (k := L) (j := 0) (by omega) (by omega)).mp d
    omega
  · refine zp_chk fun _ => zp_chk fun _ => zp_chk fun _ => zp_chk fun _ => zp_chk fun _ => zp_chk fun _ => zp_chk fun _ => zp_chk fun _ => zp_chk fun _ => zp_some ?_
    unfold zb_Weaver_emit_59
    refine zp_ite (fun _ => zp_some ?_) fun d => absurd (zo_ne (by omega)) d
    dsimp only
    refine ⟨⟨?_, fun j hj => ?_⟩, ⟨?_, fun j hj => ?_⟩, ?_, ?_⟩
    · rw [zu_other (by decide), zu_other (by decide), zu_other (by decide), zx_up_same, zu_eq]
    · rw [zu_other (by decide), zu_other (by decide), zu_other (by decide), zx_up_same, zu_ne hj]
      iterate 6 rw [zu_other (by decide)]
      exact w9 j
    · rw [zu_other (by decide), zu_other (by decide), zx_up_same, zu_eq]
    · rw [zu_other (by decide), zu_other (by decide), zx_up_same, zu_ne hj]
      iterate 7 rw [zu_other (by decide)]
      exact w10 j
    · rw [zx_up_same, zu_eq]
    · rw [zx_up_same, zu_ne (by decide), zx_up_same, zu_ne (by decide)]
      iterate 8 rw [zu_other (by decide)]
      exact c10
  · exact absurd ((zo_lt (k := L) (j := 24) (by omega) (by omega)).mpr hL) d
