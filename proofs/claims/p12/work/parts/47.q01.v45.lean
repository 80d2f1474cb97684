-- both answer alike
set_option maxRecDepth 2000
theorem z_b8 (x : Int32) : zJ_byte (zJ_byte x) = zJ_byte x := by
  unfold zJ_byte
  rw [Int8.toInt8_toInt32]
theorem z_sh (v : Int32) (s : Int32) (hs : s = 24 ∨ s = 16 ∨ s = 8 ∨ s = 0) : zJ_byte (zJ_ushr v s) = zJ_byte (zJ_shr v s) := by
  have key : ∀ n : Nat, n ≤ 24 → ((v.toBitVec >>> n).setWidth 8) = ((v.toBitVec.sshiftRight n).setWidth 8) := by
    intro n hn
    apply BitVec.eq_of_getLsbD_eq
    intro i hi
    rw [BitVec.getLsbD_setWidth, BitVec.getLsbD_setWidth, BitVec.getLsbD_ushiftRight, BitVec.getLsbD_sshiftRight]
    have a : ¬ 32 ≤ i := by omega
    have b : n + i < 32 := by omega
    simp [a, b]
  have U : (zJ_ushr v s).toBitVec = v.toBitVec >>> s.toNatClampNeg := by
    unfold zJ_ushr
    show (v.toUInt32 >>> (s.toUInt32 &&& Int32.toUInt32 31)).toBitVec = _
    rw [UInt32.toBitVec_shiftRight]
    rcases hs with h | h | h | h <;> subst h <;> rfl
  have S : (zJ_shr v s).toBitVec = v.toBitVec.sshiftRight s.toNatClampNeg := by
    unfold zJ_shr
    rw [Int32.toBitVec_shiftRight]
    rcases hs with h | h | h | h <;> subst h <;> rfl
  unfold zJ_byte
  congr 1
  apply Int8.toBitVec_inj.mp
  rw [Int32.toBitVec_toInt8, Int32.toBitVec_toInt8, U, S, BitVec.signExtend_eq_setWidth_of_le _ (by decide), BitVec.signExtend_eq_setWidth_of_le _ (by decide)]
  refine key _ ?_
  rcases hs with h | h | h | h <;> subst h <;> decide
def shk (k : Nat) : Int32 := if k = 0 then 24 else if k = 1 then 16 else if k = 2 then 8 else if k = 3 then 0 else -8
def ybt (v : Int32) (k : Nat) : Int32 := zJ_byte (zJ_shr v (shk k))
def tape (o r : Nat → Int32) (t n : Nat) (f : Nat → Int32) : Prop := ∀ j, r j = if t ≤ j ∧ j < t + n then f (j - t) else o j
theorem tape.put {o r : Nat → Int32} {t k : Nat} {f : Nat → Int32} {x : Int32} (h : tape o r t k f) (e : x = f k) : tape o (zu r (t + k) x) t (k + 1) f := by
  intro j
  by_cases q : j = t + k
  · rw [q, zu_eq, if_pos ⟨by omega, by omega⟩, e, show t + k - t = k by omega]
  · rw [zu_ne q, h j]
    by_cases c : t ≤ j ∧ j < t + k
    · rw [if_pos c, if_pos ⟨c.1, by omega⟩]
    · rw [if_neg c, if_neg (by omega)]
theorem p_X_putBytes {N t : Nat} {σ : zS} {v : Int32} (h : σ 2 11 = Int32.ofNat t) (ht : t + 4 ≤ 1500) : zp (zf_X_putBytes N σ v) (fun r => (∀ q, q ≠ 2 → q ≠ 3 → r q = σ q) ∧ (∀ i, i ≠ 11 → r 2 i = σ 2 i) ∧ r 2 11 = Int32.ofNat (t + 4) ∧ tape (σ 3) (r 3) t 4 (ybt v)) := by
  unfold zf_X_putBytes
  have go : ∀ (n k : Nat) (r : zS), k ≤ 4 → (∀ q, q ≠ 2 → q ≠ 3 → r q = σ q) → (∀ i, i ≠ 11 → r 2 i = σ 2 i) → r 2 11 = Int32.ofNat (t + k) → tape (σ 3) (r 3) t k (ybt v) → zp (zb_X_putBytes_3 N n r v (shk k)) (fun r => (∀ q, q ≠ 2 → q ≠ 3 → r q = σ q) ∧ (∀ i, i ≠ 11 → r 2 i = σ 2 i) ∧ r 2 11 = Int32.ofNat (t + 4) ∧ tape (σ 3) (r 3) t 4 (ybt v)) := by
    intro n
    induction n with
    | zero => intro _ _ _ _ _ _ _; exact zp_none
    | succ n ih =>
      intro k r hk h1 h2 h3 h4
      rw [zb_X_putBytes_3, h3]
      have s4 : k = 4 ∨ (k < 4 ∧ ¬ shk k < 0 ∧ shk k + (-8) = shk (k + 1) ∧ (shk k = 24 ∨ shk k = 16 ∨ shk k = 8 ∨ shk k = 0)) := by
        match k, hk with
        | 0, _ => exact Or.inr (by decide)
        | 1, _ => exact Or.inr (by decide)
        | 2, _ => exact Or.inr (by decide)
        | 3, _ => exact Or.inr (by decide)
        | 4, _ => exact Or.inl rfl
      rcases s4 with e | ⟨k4, ng, st, sv⟩
      · subst e
        exact zp_ite (fun _ => zp_some ⟨h1, h2, h3, h4⟩) fun q => absurd (by decide) q
      · refine zp_ite (fun q => absurd q ng) fun _ => zp_ite (fun q => ?_) fun _ => zp_chk fun _ => ?_
        · have := (zo_le (k := 1500) (j := t + k) (by omega) (by omega)).mp q
          omega
        · rw [zo_n (by omega), zo_1 (by omega), st]
          refine ih (k + 1) _ (by omega) (fun q a b => by rw [zu_other a, zu_other b]; exact h1 q a b) (fun i hi => by rw [zx_up_same, zu_ne hi, zu_other (by decide)]; exact h2 i hi) (by rw [zx_up_same, zu_eq]; rfl) ?_
          rw [zu_other (by decide), zx_up_same]
          exact h4.put (by rw [z_b8, z_sh v _ sv]; rfl)
  exact go N 0 σ (by omega) (fun _ _ _ => rfl) (fun _ _ => rfl) h (fun j => by rw [if_neg (by omega)])
def wrd (x1 x2 x3 x4 x5 : Int32) (i : Nat) : Int32 := if i < 4 then x1 else if i < 8 then x2 else if i < 12 then x3 else if i < 16 then x4 else x5
def fed (x1 x2 x3 x4 x5 : Int32) (i : Nat) : Int32 := ybt (wrd x1 x2 x3 x4 x5 i) (i % 4)
theorem tape.cat {o m r : Nat → Int32} {t n k : Nat} {f g F : Nat → Int32} (h : tape o m t n f) (h2 : tape m r (t + n) k g) (e1 : ∀ i, i < n → F i = f i) (e2 : ∀ i, i < k → F (n + i) = g i) : tape o r t (n + k) F := by
  intro j
  rw [h2 j]
  by_cases c : t + n ≤ j ∧ j < t + n + k
  · rw [if_pos c, if_pos ⟨by omega, by omega⟩, ← e2 _ (by omega), show n + (j - (t + n)) = j - t by omega]
  · rw [if_neg c, h j]
    by_cases d : t ≤ j ∧ j < t + n
    · rw [if_pos d, if_pos ⟨d.1, by omega⟩, e1 _ (by omega)]
    · rw [if_neg d, if_neg (by omega)]
theorem p_X_feed {N t : Nat} {σ : zS} {x1 x2 x3 x4 x5 : Int32} (h : σ 2 11 = Int32.ofNat t) (ht : t + 20 ≤ 1500) : zp (zf_X_feed N σ x1 x2 x3 x4 x5) (fun r => (∀ q, q ≠ 2 → q ≠ 3 → r.2 q = σ q) ∧ (∀ i, i ≠ 11 → r.2 2 i = σ 2 i) ∧ tape (σ 3) (r.2 3) t 20 (fed x1 x2 x3 x4 x5)) := by
  unfold zf_X_feed zb_X_feed_20
  refine zp_ite (fun _ => zp_none) fun _ => zp_ite (fun _ => ?_) fun _ => zp_none
  refine zp_bind (zp_mono (p_X_putBytes h (by omega)) ?_)
  rintro r1 ⟨a1, a2, a3, a4⟩
  refine zp_bind (zp_mono (p_X_putBytes a3 (by omega)) ?_)
  rintro r2 ⟨b1, b2, b3, b4⟩
  refine zp_bind (zp_mono (p_X_putBytes b3 (by omega)) ?_)
  rintro r3 ⟨c1, c2, c3, c4⟩
  refine zp_bind (zp_mono (p_X_putBytes c3 (by omega)) ?_)
  rintro r4 ⟨d1, d2, d3, d4⟩
  refine zp_bind (zp_mono (p_X_putBytes d3 (by omega)) ?_)
  rintro r5 ⟨e1, e2, e3, e4⟩
  refine zp_some ⟨fun q x y => by dsimp only; rw [e1 q x y, d1 q x y, c1 q x y, b1 q x y, a1 q x y], fun i hi => by dsimp only; rw [e2 i hi, d2 i hi, c2 i hi, b2 i hi, a2 i hi], ?_⟩
  have m0 : ∀ i, i < 4 → fed x1 x2 x3 x4 x5 i = ybt x1 i := fun i hi => by unfold fed wrd; rw [if_pos hi, Nat.mod_eq_of_lt hi]
  have m1 : ∀ i, i < 4 → fed x1 x2 x3 x4 x5 (4 + i) = ybt x2 i := fun i hi => by unfold fed wrd; rw [if_neg (by omega), if_pos (by omega), show (4 + i) % 4 = i by omega]
  have m2 : ∀ i, i < 4 → fed x1 x2 x3 x4 x5 (8 + i) = ybt x3 i := fun i hi => by unfold fed wrd; rw [if_neg (by omega), if_neg (by omega), if_pos (by omega), show (8 + i) % 4 = i by omega]
  have m3 : ∀ i, i < 4 → fed x1 x2 x3 x4 x5 (12 + i) = ybt x4 i := fun i hi => by unfold fed wrd; rw [if_neg (by omega), if_neg (by omega), if_neg (by omega), if_pos (by omega), show (12 + i) % 4 = i by omega]
  have m4 : ∀ i, i < 4 → fed x1 x2 x3 x4 x5 (16 + i) = ybt x5 i := fun i hi => by unfold fed wrd; rw [if_neg (by omega), if_neg (by omega), if_neg (by omega), if_neg (by omega), show (16 + i) % 4 = i by omega]
  have t8 := a4.cat (F := fed x1 x2 x3 x4 x5) b4 m0 m1
  have t12 := t8.cat (F := fed x1 x2 x3 x4 x5) c4 (fun _ _ => rfl) m2
  have t16 := t12.cat (F := fed x1 x2 x3 x4 x5) d4 (fun _ _ => rfl) m3
  exact t16.cat (F := fed x1 x2 x3 x4 x5) e4 (fun _ _ => rfl) m4
theorem z_f20 : ∀ i : Fin 20, 24 - 8 * zJ_rem (Int32.ofNat i.val) 4 = shk (i.val % 4) := by decide +kernel
theorem p_M_feed {N t : Nat} {σ : zS} {x1 x2 x3 x4 x5 : Int32} (h : σ 82 2 = Int32.ofNat t) (ht : t ≤ 1500) : zp (zf_M_feed N σ x1 x2 x3 x4 x5) (fun r => (∀ q, q ≠ 82 → q ≠ 83 → r.2 q = σ q) ∧ (∀ i, i ≠ 0 → i ≠ 2 → r.2 82 i = σ 82 i) ∧ ((t + 20 ≤ 1500 ∧ tape (σ 83) (r.2 83) t 20 (fed x1 x2 x3 x4 x5)) ∨ (¬ t + 20 ≤ 1500 ∧ r.2 83 = σ 83))) := by
  have e20 : σ 82 2 + 20 = Int32.ofNat (t + 20) := zo_plus (j := 20) h (by omega)
  unfold zf_M_feed zb_M_feed_19
  rw [e20]
  refine zp_ite (fun q => zp_ite (fun _ => ?_) fun q => absurd (by decide) q) fun q => zp_ite (fun q => absurd q (by decide)) fun _ => zp_some ⟨fun q a _ => ?_, fun i a _ => ?_, Or.inr ⟨fun x => q ((zo_le (k := t + 20) (j := 1500) (by omega) (by omega)).mpr x), ?_⟩⟩
  · have t20 : t + 20 ≤ 1500 := (zo_le (k := t + 20) (j := 1500) (by omega) (by omega)).mp q
    have go : ∀ (n i : Nat) (r : zS), i ≤ 20 → (∀ q, q ≠ 82 → q ≠ 83 → r q = σ q) → (∀ j, j ≠ 0 → j ≠ 2 → r 82 j = σ 82 j) → r 82 2 = Int32.ofNat (t + i) → tape (σ 83) (r 83) t i (fed x1 x2 x3 x4 x5) → zp (zb_M_feed_34 N n r x1 x2 x3 x4 x5 (Int32.ofNat i)) (fun r => (∀ q, q ≠ 82 → q ≠ 83 → r.2 q = σ q) ∧ (∀ i, i ≠ 0 → i ≠ 2 → r.2 82 i = σ 82 i) ∧ ((t + 20 ≤ 1500 ∧ tape (σ 83) (r.2 83) t 20 (fed x1 x2 x3 x4 x5)) ∨ (¬ t + 20 ≤ 1500 ∧ r.2 83 = σ 83))) := by
      intro n
      induction n with
      | zero => intro _ _ _ _ _ _ _; exact zp_none
      | succ n ih =>
        intro i r hi h1 h2 h3 h4
        rw [zb_M_feed_34]
        by_cases e : i = 20
        · subst e
          exact zp_ite (fun _ => zp_some ⟨h1, h2, Or.inl ⟨t20, h4⟩⟩) fun q => absurd (by decide) q
        · have lt : i < 20 := by omega
          have C : ∀ w, w = wrd x1 x2 x3 x4 x5 i → zp (zb_M_feed_87 (zb_M_feed_34 N n) N r x1 x2 x3 x4 x5 (Int32.ofNat i) w) (fun r => (∀ q, q ≠ 82 → q ≠ 83 → r.2 q = σ q) ∧ (∀ i, i ≠ 0 → i ≠ 2 → r.2 82 i = σ 82 i) ∧ ((t + 20 ≤ 1500 ∧ tape (σ 83) (r.2 83) t 20 (fed x1 x2 x3 x4 x5)) ∨ (¬ t + 20 ≤ 1500 ∧ r.2 83 = σ 83))) := by
            intro w hw
            unfold zb_M_feed_87
            rw [h3, zo_n (by omega), zo_1 (by omega), zo_1 (by omega), z_f20 ⟨i, lt⟩]
            refine zp_chk fun _ => ih (i + 1) _ (by omega) (fun q a b => by rw [zu_other a, zu_other b]; exact h1 q a b) (fun j a b => by rw [zx_up_same, zu_ne b, zu_other (by decide)]; exact h2 j a b) (by rw [zx_up_same, zu_eq]; rfl) ?_
            rw [zu_other (by decide), zx_up_same]
            exact h4.put (by rw [z_b8, hw]; rfl)
          have L : ∀ k : Nat, k ≤ 20 → (Int32.ofNat k ≤ Int32.ofNat i ↔ k ≤ i) := fun k hk => zo_le (by omega) (by omega)
          refine zp_ite (fun q => ?_) fun _ => zp_ite (fun q4 => zp_ite (fun q8 => zp_ite (fun q12 => zp_ite (fun q16 => C x5 ?_) fun q16 => C x4 ?_) fun q12 => C x3 ?_) fun q8 => C x2 ?_) fun q4 => C x1 ?_
          · have := (L 20 (by omega)).mp q
            omega
          · have a := (L 4 (by omega)).mp q4
            have b := (L 8 (by omega)).mp q8
            have c := (L 12 (by omega)).mp q12
            have d := (L 16 (by omega)).mp q16
            unfold wrd
            rw [if_neg (by omega), if_neg (by omega), if_neg (by omega), if_neg (by omega)]
          · have d : ¬ 16 ≤ i := fun x => q16 ((L 16 (by omega)).mpr x)
            have c := (L 12 (by omega)).mp q12
            unfold wrd
            rw [if_neg (by omega), if_neg (by omega), if_neg (by omega), if_pos (by omega)]
          · have d : ¬ 12 ≤ i := fun x => q12 ((L 12 (by omega)).mpr x)
            have c := (L 8 (by omega)).mp q8
            unfold wrd
            rw [if_neg (by omega), if_neg (by omega), if_pos (by omega)]
          · have d : ¬ 8 ≤ i := fun x => q8 ((L 8 (by omega)).mpr x)
            have c := (L 4 (by omega)).mp q4
            unfold wrd
            rw [if_neg (by omega), if_pos (by omega)]
          · have d : ¬ 4 ≤ i := fun x => q4 ((L 4 (by omega)).mpr x)
            unfold wrd
            rw [if_pos (by omega)]
    refine go N 0 _ (by omega) (fun q a _ => zu_other a) (fun j a _ => by rw [zx_up_same, zu_ne a]) (by rw [zx_up_same, zu_ne (by decide)]; exact h) (fun j => by rw [if_neg (by omega), zu_other (by decide)])
  · dsimp only; rw [zu_other a]
  · dsimp only; rw [zx_up_same, zu_ne a]
  · dsimp only; rw [zu_other (by decide)]
theorem z_brange (x : Int32) : -128 ≤ zJ_byte x ∧ zJ_byte x ≤ 127 := by
  have e : (zJ_byte x).toInt = x.toInt8.toInt := Int8.toInt_toInt32 _
  have a := Int8.le_toInt x.toInt8
  have b := Int8.toInt_lt x.toInt8
  exact ⟨Int32.le_iff_toInt_le.mpr (by rw [e]; show (-128 : Int) ≤ _; omega), Int32.le_iff_toInt_le.mpr (by rw [e]; show _ ≤ (127 : Int); omega)⟩
def EQV (σ : zS) (τ : zT) : Prop := RS τ ∧ σ 3 = σ 83 ∧ (∀ i, -128 ≤ σ 83 i ∧ σ 83 i ≤ 127) ∧ LO σ σ
theorem LO.of {ρ μ r ν : zS} (h : LO ρ μ) (e2 : r 2 13 = ρ 2 13) (e4 : ∀ i, i < 5 → r 4 i = ρ 4 i) (e5 : r 5 = ρ 5) (m21 : ν 82 21 = μ 82 21) (m82 : ∀ i, i = 15 ∨ i = 16 ∨ i = 17 ∨ i = 25 → ν 82 i = μ 82 i) (m90 : ν 90 = μ 90) (e7 : ∀ q, 7 ≤ q ∧ q ≤ 12 → r q = ρ q) (m97 : ∀ q, 92 ≤ q ∧ q ≤ 97 → ν q = μ q) : LO r ν := by
  rcases h with ⟨a, b⟩ | ⟨a, b, c⟩
  · exact Or.inl ⟨e2.trans a, m21.trans b⟩
  · exact Or.inr ⟨e2.trans a, m21.trans b, c.of e4 e5 m82 m90 e7 m97⟩
theorem EQV.x {σ r : zS} {τ : zT} (h : EQV σ τ) (f : FX σ r) (j : ∀ q, 82 ≤ q → r q = σ q) : EQV r τ := by
  obtain ⟨h1, h2, h3, h4⟩ := h
  have e82 := j 82 (by decide)
  refine ⟨h1, by rw [f.1 3 (by decide) (by decide), j 83 (by decide)]; exact h2, by rw [j 83 (by decide)]; exact h3, h4.of (f.2 13 (by decide) (by decide) (by decide)) (fun i _ => by rw [f.1 4 (by decide) (by decide)]) (f.1 5 (by decide) (by decide)) (by rw [e82]) (fun i _ => by rw [e82]) (j 90 (by decide)) (fun q hq => f.1 q (by omega) (by omega)) (fun q hq => j q (by omega))⟩
theorem EQV.m {σ r : zS} {τ : zT} (h : EQV σ τ) (f : FM σ r) : EQV r τ := by
  obtain ⟨h1, h2, h3, h4⟩ := h
  refine ⟨h1, by rw [f.1 3 (by decide) (by decide), f.1 83 (by decide) (by decide)]; exact h2, by rw [f.1 83 (by decide) (by decide)]; exact h3, h4.of (by rw [f.1 2 (by decide) (by decide)]) (fun i _ => by rw [f.1 4 (by decide) (by decide)]) (f.1 5 (by decide) (by decide)) (f.2 21 (by decide) (by decide)) (fun i hi => f.2 i (by omega) (by omega)) (f.1 90 (by decide) (by decide)) (fun q hq => f.1 q (by omega) (by omega)) (fun q hq => f.1 q (by omega) (by omega))⟩
theorem FX.rfl' {σ : zS} : FX σ σ := ⟨fun _ _ _ => rfl, fun _ _ _ _ => rfl⟩
theorem FM.rfl' {σ : zS} : FM σ σ := ⟨fun _ _ _ => rfl, fun _ _ _ => rfl⟩
theorem zq_both {α : Type} {o : Option α} {P Q : α → Prop} (h : zp o P) (k : zq o (fun r => P r → Q r)) : zq o Q := by
  cases o with
  | none => exact k
  | some v => exact k (h v rfl)
