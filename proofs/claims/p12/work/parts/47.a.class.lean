-- every method answers: totality within bounds, by invariants of the two states
set_option maxRecDepth 2000
/-! ANSWERS: a function answers, and its answer is so -/
def zq {α : Type} (o : Option α) (Q : α → Prop) : Prop := match o with
  | some v => Q v
  | none => False
theorem zq_chk {α : Type} {c : Prop} [Decidable c] {a : Option α} {Q : α → Prop} (h : c) (k : c → zq a Q) : zq (if c then a else none) Q := by
  rw [if_pos h]; exact k h
theorem zq_ite {α : Type} {c : Prop} [Decidable c] {a b : Option α} {Q : α → Prop} (k : c → zq a Q) (l : ¬ c → zq b Q) : zq (if c then a else b) Q := by
  by_cases h : c
  · rw [if_pos h]; exact k h
  · rw [if_neg h]; exact l h
theorem zq_bind {α β : Type} {o : Option α} {f : α → Option β} {Q : β → Prop} (h : zq o fun r => zq (f r) Q) : zq (o.bind f) Q := by
  cases o with
  | none => exact h
  | some v => exact h
theorem zq_get {α : Type} {o : Option α} {Q : α → Prop} (h : zq o Q) : ∃ r, o = some r ∧ Q r := by
  cases o with
  | none => exact h.elim
  | some v => exact ⟨v, rfl, h⟩
def zBig : Nat := 8589934592
def zmu (v : Int32) : Nat := (2147483647 - v.toInt).toNat
def zmd (v : Int32) : Nat := (v.toInt + 2147483648).toNat
theorem z_hi (v : Int32) : v.toInt ≤ 2147483647 := Int32.toInt_le v
theorem z_lo (v : Int32) : -2147483648 ≤ v.toInt := Int32.le_toInt v
theorem zmu_lt {N : Nat} (h : zBig ≤ N) (v : Int32) : zmu v < N := by
  have := z_hi v; have := z_lo v; unfold zmu; unfold zBig at h; omega
theorem zmd_lt {N : Nat} (h : zBig ≤ N) (v : Int32) : zmd v < N := by
  have := z_hi v; have := z_lo v; unfold zmd; unfold zBig at h; omega
theorem z_succ {v b : Int32} (h : v < b) : (v + 1).toInt = v.toInt + 1 := by
  have h1 := Int32.lt_iff_toInt_lt.mp h
  have h2 := z_hi b; have h3 := z_lo v
  rw [Int32.toInt_add, show (1 : Int32).toInt = 1 from rfl, Int.bmod_def]
  omega
theorem z_pred {v : Int32} (h : ¬ v < 0) : (v + (-1)).toInt = v.toInt - 1 := by
  have h1 : ¬ v.toInt < 0 := fun q => h (Int32.lt_iff_toInt_lt.mpr q)
  have h2 := z_hi v
  rw [Int32.toInt_add, show (-1 : Int32).toInt = -1 from rfl, Int.bmod_def]
  omega
theorem zmu_up {v b : Int32} {n : Nat} (h : ¬ b ≤ v) (hn : zmu v < n + 1) : zmu (v + 1) < n := by
  have h1 := Int32.not_le.mp h
  have h2 := z_succ h1
  have h3 := Int32.lt_iff_toInt_lt.mp h1
  have h4 := z_hi b
  unfold zmu at hn ⊢
  omega
theorem zmd_dn {v : Int32} {n : Nat} (h : ¬ v < 0) (hn : zmd v < n + 1) : zmd (v + (-1)) < n := by
  have h1 : ¬ v.toInt < 0 := fun q => h (Int32.lt_iff_toInt_lt.mpr q)
  have h2 := z_pred h
  unfold zmd at hn ⊢
  omega
theorem z_and (v m : Int32) (h : 0 ≤ m) : 0 ≤ (v &&& m) ∧ (v &&& m) ≤ m := by
  have h1 : 0 ≤ m.toInt := Int32.le_iff_toInt_le.mp h
  have e1 : (v &&& m).toInt = (v.toBitVec &&& m.toBitVec).toInt := rfl
  have e2 : m.toInt = m.toBitVec.toInt := rfl
  have m1 : m.toBitVec.msb = false := by
    cases hm : m.toBitVec.msb with
    | false => rfl
    | true =>
      rw [e2, BitVec.toInt_eq_msb_cond, if_pos hm] at h1
      have := m.toBitVec.isLt
      omega
  have m2 : (v.toBitVec &&& m.toBitVec).msb = false := by
    rw [BitVec.msb_and, m1, Bool.and_false]
  have e3 : (v &&& m).toInt = ((v.toBitVec &&& m.toBitVec).toNat : Int) := by
    rw [e1, BitVec.toInt_eq_toNat_of_msb m2]
  have e4 : m.toInt = (m.toBitVec.toNat : Int) := by
    rw [e2, BitVec.toInt_eq_toNat_of_msb m1]
  have e5 : (v.toBitVec &&& m.toBitVec).toNat ≤ m.toBitVec.toNat := by
    rw [BitVec.toNat_and]; exact Nat.and_le_right
  constructor
  · apply Int32.le_iff_toInt_le.mpr
    rw [e3]
    exact Int.natCast_nonneg _
  · apply Int32.le_iff_toInt_le.mpr
    rw [e3, e4]
    exact Int.ofNat_le.mpr e5
def JX (σ0 σ : zS) : Prop :=
  (∀ q, 82 ≤ q → σ q = σ0 q) ∧
  (σ 2 11 = σ0 2 11) ∧
  (∀ i, 0 ≤ σ 37 i ∧ σ 37 i ≤ 96) ∧
  (∀ i, 0 ≤ σ 78 i ∧ σ 78 i ≤ 96)
theorem JX.fr {σ0 σ : zS} (h : JX σ0 σ) : ∀ q, 82 ≤ q → σ q = σ0 q := h.1
theorem JX.tp {σ0 σ : zS} (h : JX σ0 σ) : σ 2 11 = σ0 2 11 := h.2.1
theorem JX.sl {σ0 σ : zS} (h : JX σ0 σ) : ∀ i, 0 ≤ σ 37 i ∧ σ 37 i ≤ 96 := h.2.2.1
theorem JX.rr {σ0 σ : zS} (h : JX σ0 σ) : ∀ i, 0 ≤ σ 78 i ∧ σ 78 i ≤ 96 := h.2.2.2
theorem JX.up {σ0 σ : zS} {q i : Nat} {v : Int32} (hq : q ≠ 2 ∧ q ≠ 37 ∧ q ≠ 78 ∧ q < 82) (h : JX σ0 σ) : JX σ0 (zx_up σ q i v) := by
  obtain ⟨h1, h2, h3, h4⟩ := h
  refine ⟨?_, ?_, ?_, ?_⟩ <;> grind [zx_up]
theorem JX.up2 {σ0 σ : zS} {i : Nat} {v : Int32} (hi : i ≠ 11) (h : JX σ0 σ) : JX σ0 (zx_up σ 2 i v) := by
  obtain ⟨h1, h2, h3, h4⟩ := h
  refine ⟨?_, ?_, ?_, ?_⟩ <;> grind [zx_up]
theorem JX.up37 {σ0 σ : zS} {i : Nat} {v : Int32} (hv : 0 ≤ v ∧ v ≤ 96) (h : JX σ0 σ) : JX σ0 (zx_up σ 37 i v) := by
  obtain ⟨h1, h2, h3, h4⟩ := h
  refine ⟨?_, ?_, ?_, ?_⟩ <;> grind [zx_up]
theorem JX.up78 {σ0 σ : zS} {i : Nat} {v : Int32} (hv : 0 ≤ v ∧ v ≤ 96) (h : JX σ0 σ) : JX σ0 (zx_up σ 78 i v) := by
  obtain ⟨h1, h2, h3, h4⟩ := h
  refine ⟨?_, ?_, ?_, ?_⟩ <;> grind [zx_up]
theorem JX.cp {σ0 σ : zS} {p q : Nat} {a b c : Int32} (hq : q ≠ 2 ∧ q ≠ 37 ∧ q ≠ 78 ∧ q < 82) (h : JX σ0 σ) : JX σ0 (zJ_copy σ p q a b c) := by
  obtain ⟨h1, h2, h3, h4⟩ := h
  refine ⟨?_, ?_, ?_, ?_⟩ <;> grind [zJ_copy]
theorem JX.tp0 {σ0 σ : zS} {v : Int32} (h : JX σ0 σ) : JX (zx_up σ0 2 11 v) (zx_up σ 2 11 v) := by
  obtain ⟨h1, h2, h3, h4⟩ := h
  refine ⟨?_, ?_, ?_, ?_⟩ <;> grind [zx_up]
theorem z_toInt_div {a c : Int32} (ha : 0 ≤ a) (hc : 0 < c) : (a / c).toInt = a.toInt / c.toInt := by
  have h1 : 0 ≤ a.toInt := Int32.le_iff_toInt_le.mp ha
  have h2 : 0 < c.toInt := Int32.lt_iff_toInt_lt.mp hc
  have h3 := z_hi a
  have h4 : 0 ≤ a.toInt / c.toInt := Int.ediv_nonneg h1 (by omega)
  have h5 : a.toInt / c.toInt ≤ a.toInt := Int.ediv_le_self _ h1
  rw [Int32.toInt_div, Int.tdiv_eq_ediv_of_nonneg h1, Int.bmod_def]
  omega
theorem z_div (a c : Int32) : 0 ≤ a → 0 < c → 0 ≤ a / c ∧ a / c ≤ a := by
  intro ha hc
  have e := z_toInt_div ha hc
  have h1 : 0 ≤ a.toInt := Int32.le_iff_toInt_le.mp ha
  have h2 : 0 < c.toInt := Int32.lt_iff_toInt_lt.mp hc
  constructor
  · apply Int32.le_iff_toInt_le.mpr; rw [e]; exact Int.ediv_nonneg h1 (by omega)
  · apply Int32.le_iff_toInt_le.mpr; rw [e]; exact Int.ediv_le_self _ h1
theorem z_toInt_rem {a c : Int32} (ha : 0 ≤ a) (hc : 0 < c) : (zJ_rem a c).toInt = a.toInt % c.toInt := by
  have e := z_toInt_div ha hc
  have h1 : 0 ≤ a.toInt := Int32.le_iff_toInt_le.mp ha
  have h2 : 0 < c.toInt := Int32.lt_iff_toInt_lt.mp hc
  have h3 := z_hi a
  have h4 := Int.emod_nonneg a.toInt (show c.toInt ≠ 0 by omega)
  have h5 := Int.emod_lt_of_pos a.toInt h2
  have h6 := Int.mul_ediv_add_emod a.toInt c.toInt
  have h7 := z_hi c
  have h8 : 0 ≤ c.toInt * (a.toInt / c.toInt) := Int.mul_nonneg (by omega) (Int.ediv_nonneg h1 (by omega))
  unfold zJ_rem
  rw [Int32.toInt_sub, Int32.toInt_mul, e, Int.mul_comm (a.toInt / c.toInt) c.toInt]
  generalize c.toInt * (a.toInt / c.toInt) = p at *
  rw [Int.bmod_def, Int.bmod_def]
  omega
theorem z_d24 (a : Int32) : 0 ≤ a → a < 96 → (0 ≤ a / 24 ∧ a / 24 < 4) ∧ (0 ≤ zJ_rem a 24 ∧ zJ_rem a 24 < 24) ∧ a = 24 * (a / 24) + zJ_rem a 24 := by
  intro ha hb
  have e1 := z_toInt_div ha (show (0 : Int32) < 24 by decide)
  have e2 := z_toInt_rem ha (show (0 : Int32) < 24 by decide)
  have h1 : 0 ≤ a.toInt := Int32.le_iff_toInt_le.mp ha
  have h2 : a.toInt < 96 := Int32.lt_iff_toInt_lt.mp hb
  rw [show (24 : Int32).toInt = 24 from rfl] at e1 e2
  have q1 : 0 ≤ a / 24 := Int32.le_iff_toInt_le.mpr (by rw [e1, show (0 : Int32).toInt = 0 from rfl]; omega)
  have q2 : a / 24 < 4 := Int32.lt_iff_toInt_lt.mpr (by rw [e1, show (4 : Int32).toInt = 4 from rfl]; omega)
  have q3 : 0 ≤ zJ_rem a 24 := Int32.le_iff_toInt_le.mpr (by rw [e2, show (0 : Int32).toInt = 0 from rfl]; omega)
  have q4 : zJ_rem a 24 < 24 := Int32.lt_iff_toInt_lt.mpr (by rw [e2, show (24 : Int32).toInt = 24 from rfl]; omega)
  refine ⟨⟨q1, q2⟩, ⟨q3, q4⟩, ?_⟩
  apply Int32.toInt_inj.mp
  rw [Int32.toInt_add, Int32.toInt_mul, e1, e2, show (24 : Int32).toInt = 24 from rfl, Int.bmod_def, Int.bmod_def]
  omega
theorem z_d96 (a : Int32) : 0 ≤ a → a < 9216 → 0 ≤ a / 96 ∧ a / 96 < 96 := by
  intro ha hb
  have e1 := z_toInt_div ha (show (0 : Int32) < 96 by decide)
  have h1 : 0 ≤ a.toInt := Int32.le_iff_toInt_le.mp ha
  have h2 : a.toInt < 9216 := Int32.lt_iff_toInt_lt.mp hb
  rw [show (96 : Int32).toInt = 96 from rfl] at e1
  constructor
  · exact Int32.le_iff_toInt_le.mpr (by rw [e1, show (0 : Int32).toInt = 0 from rfl]; omega)
  · exact Int32.lt_iff_toInt_lt.mpr (by rw [e1, show (96 : Int32).toInt = 96 from rfl]; omega)
theorem q_b_Arrays_fill_5 {N : Nat} (hN : zBig ≤ N) {σ0 : zS} {v1 : Int32} {v3 : Int32} {Q : (zS) → Prop} (hQ : ∀ r, JX σ0 r → Q r) : ∀ (n : Nat) (σ : zS) (v2 : Int32), JX σ0 σ → (0 ≤ v2 ∧ v3 = 4) → zmu v2 < n → zq (zb_Arrays_fill_5 N n σ v1 v2 v3) Q := by
  intro n
  induction n with
  | zero => intro _ _ _ _ hn; exact absurd hn (Nat.not_lt_zero _)
  | succ n ih =>
    intro σ v2 hJ hI hn
    rw [zb_Arrays_fill_5]
    refine zq_ite (fun c1 => ?_) fun c1 => ?_
    ·
      exact hQ _ hJ
    ·
      refine zq_chk (by (first | with_reducible assumption | omega | grind)) fun c2 => ?_
      exact ih (zx_up σ 5 v2.toNatClampNeg v1) (v2 + 1) (JX.up (by decide) hJ) (by (first | with_reducible assumption | omega | grind)) (by first | exact zmu_up (by assumption) hn | exact zmu_up (b := 2147483647) (by (first | with_reducible assumption | omega | grind)) hn | (first | with_reducible assumption | omega | grind))

theorem q_f_Arrays_fill {N : Nat} (hN : zBig ≤ N) {σ0 : zS} {σ : zS} {x2 : Int32} {Q : (zS) → Prop} (hJ : JX σ0 σ) (hQ : ∀ r, JX σ0 r → Q r) : zq (zf_Arrays_fill N σ x2) Q := by
  unfold zf_Arrays_fill
  exact q_b_Arrays_fill_5 hN hQ N σ 0 hJ (by (first | with_reducible assumption | omega | grind)) (by exact zmu_lt hN _)

theorem q_b_Arrays_fill_c1_5 {N : Nat} (hN : zBig ≤ N) {σ0 : zS} {v1 : Int32} {v3 : Int32} {Q : (zS) → Prop} (hQ : ∀ r, JX σ0 r → Q r) : ∀ (n : Nat) (σ : zS) (v2 : Int32), JX σ0 σ → (0 ≤ v2 ∧ v3 = 4) → zmu v2 < n → zq (zb_Arrays_fill_c1_5 N n σ v1 v2 v3) Q := by
  intro n
  induction n with
  | zero => intro _ _ _ _ hn; exact absurd hn (Nat.not_lt_zero _)
  | succ n ih =>
    intro σ v2 hJ hI hn
    rw [zb_Arrays_fill_c1_5]
    refine zq_ite (fun c1 => ?_) fun c1 => ?_
    ·
      exact hQ _ hJ
    ·
      refine zq_chk (by (first | with_reducible assumption | omega | grind)) fun c2 => ?_
      exact ih (zx_up σ 6 v2.toNatClampNeg v1) (v2 + 1) (JX.up (by decide) hJ) (by (first | with_reducible assumption | omega | grind)) (by first | exact zmu_up (by assumption) hn | exact zmu_up (b := 2147483647) (by (first | with_reducible assumption | omega | grind)) hn | (first | with_reducible assumption | omega | grind))

theorem q_f_Arrays_fill_c1 {N : Nat} (hN : zBig ≤ N) {σ0 : zS} {σ : zS} {x2 : Int32} {Q : (zS) → Prop} (hJ : JX σ0 σ) (hQ : ∀ r, JX σ0 r → Q r) : zq (zf_Arrays_fill_c1 N σ x2) Q := by
  unfold zf_Arrays_fill_c1
  exact q_b_Arrays_fill_c1_5 hN hQ N σ 0 hJ (by (first | with_reducible assumption | omega | grind)) (by exact zmu_lt hN _)

theorem q_f_Program_clear {N : Nat} (hN : zBig ≤ N) {σ0 : zS} {σ : zS} {Q : (zS) → Prop} (hJ : JX σ0 σ) (hQ : ∀ r, JX σ0 r → Q r) : zq (zf_Program_clear N σ) Q := by
  unfold zf_Program_clear
  refine zq_bind (q_f_Arrays_fill hN (JX.up (by decide) (JX.up (by decide) (JX.up (by decide) (JX.up (by decide) (JX.up (by decide) (JX.up (by decide) (JX.up (by decide) hJ))))))) fun r1 jr1 => ?_)
  refine zq_bind (q_f_Arrays_fill_c1 hN jr1 fun r2 jr2 => ?_)
  exact hQ _ jr2

theorem q_f_Names_clear {σ0 : zS} {σ : zS} {Q : (zS) → Prop} (hJ : JX σ0 σ) (hQ : ∀ r, JX σ0 r → Q r) : zq (zf_Names_clear σ) Q := by
  unfold zf_Names_clear
  exact hQ _ (JX.up (by decide) (JX.up (by decide) hJ))

theorem q_f_Weaver_beginThread {σ0 : zS} {σ : zS} {x1 : Int32} {Q : (zS) → Prop} (hJ : JX σ0 σ) (hQ : ∀ r, JX σ0 r → Q r) : zq (zf_Weaver_beginThread σ x1) Q := by
  unfold zf_Weaver_beginThread
  exact hQ _ (JX.up (by decide) (JX.up (by decide) (JX.up (by decide) (JX.up (by decide) (JX.up (by decide) (JX.up (by decide) (JX.up (by decide) hJ)))))))

theorem q_f_Tokens_advance {σ0 : zS} {σ : zS} {τ : zT} {Q : (zS × zT) → Prop} (hJ : JX σ0 σ) (hQ : ∀ r, JX σ0 r.1 → Q r) : zq (zf_Tokens_advance σ τ) Q := by
  unfold zf_Tokens_advance
  refine zq_ite (fun c1 => ?_) fun c1 => ?_
  ·
    show zq (zb_Tokens_advance_33 σ τ) Q
    unfold zb_Tokens_advance_33
    refine zq_ite (fun c2 => ?_) fun c2 => ?_
    ·
      exact hQ _ hJ
    ·
      refine zq_ite (fun c3 => ?_) fun c3 => ?_
      ·
        exact hQ _ hJ
      ·
        refine zq_chk (by (first | with_reducible assumption | omega | grind)) fun c4 => ?_
        refine zq_chk (by (first | with_reducible assumption | omega | grind)) fun c5 => ?_
        refine zq_chk (by (first | with_reducible assumption | omega | grind)) fun c6 => ?_
        exact hQ _ (JX.up (by decide) (JX.up (by decide) hJ))
  ·
    refine zq_ite (fun c7 => ?_) fun c7 => ?_
    ·
      show zq (zb_Tokens_advance_33 σ τ) Q
      unfold zb_Tokens_advance_33
      refine zq_ite (fun c8 => ?_) fun c8 => ?_
      ·
        exact hQ _ hJ
      ·
        refine zq_ite (fun c9 => ?_) fun c9 => ?_
        ·
          exact hQ _ hJ
        ·
          refine zq_chk (by (first | with_reducible assumption | omega | grind)) fun c10 => ?_
          refine zq_chk (by (first | with_reducible assumption | omega | grind)) fun c11 => ?_
          refine zq_chk (by (first | with_reducible assumption | omega | grind)) fun c12 => ?_
          exact hQ _ (JX.up (by decide) (JX.up (by decide) hJ))
    ·
      show zq (zb_Tokens_advance_33 (zx_up σ 25 6 ((σ 25 6) + 1)) τ) Q
      unfold zb_Tokens_advance_33
      refine zq_ite (fun c13 => ?_) fun c13 => ?_
      ·
        exact hQ _ (JX.up (by decide) hJ)
      ·
        refine zq_ite (fun c14 => ?_) fun c14 => ?_
        ·
          exact hQ _ (JX.up (by decide) hJ)
        ·
          refine zq_chk (by have := (show (zx_up σ 25 6 ((σ 25 6) + 1)) 25 6 = ((σ 25 6) + 1) from rfl); (first | with_reducible assumption | omega | grind)) fun c15 => ?_
          refine zq_chk (by have := (show (zx_up σ 25 6 ((σ 25 6) + 1)) 25 6 = ((σ 25 6) + 1) from rfl); (first | with_reducible assumption | omega | grind)) fun c16 => ?_
          refine zq_chk (by have := (show (zx_up σ 25 6 ((σ 25 6) + 1)) 25 6 = ((σ 25 6) + 1) from rfl); (first | with_reducible assumption | omega | grind)) fun c17 => ?_
          exact hQ _ (JX.up (by decide) (JX.up (by decide) (JX.up (by decide) hJ)))

theorem q_f_Tokens_byteAt {σ0 : zS} {σ : zS} {x1 : Int32} {Q : (Int32) → Prop} (hJ : JX σ0 σ) (hQ : ∀ r, Q r) : zq (zf_Tokens_byteAt σ x1) Q := by
  unfold zf_Tokens_byteAt
  refine zq_ite (fun c1 => ?_) fun c1 => ?_
  ·
    show zq (zb_Tokens_byteAt_21 σ) Q
    unfold zb_Tokens_byteAt_21
    exact hQ _
  ·
    refine zq_ite (fun c2 => ?_) fun c2 => ?_
    ·
      show zq (zb_Tokens_byteAt_21 σ) Q
      unfold zb_Tokens_byteAt_21
      exact hQ _
    ·
      refine zq_ite (fun c3 => ?_) fun c3 => ?_
      ·
        refine zq_chk (by (first | with_reducible assumption | omega | grind)) fun c4 => ?_
        exact hQ _
      ·
        show zq (zb_Tokens_byteAt_21 σ) Q
        unfold zb_Tokens_byteAt_21
        exact hQ _

theorem q_f_Tokens_isOfWord {σ0 : zS} {σ : zS} {x1 : Int32} {Q : (Int32) → Prop} (hJ : JX σ0 σ) (hQ : ∀ r, Q r) : zq (zf_Tokens_isOfWord σ x1) Q := by
  unfold zf_Tokens_isOfWord
  refine zq_ite (fun c1 => ?_) fun c1 => ?_
  ·
    show zq (zb_Tokens_isOfWord_12 σ x1) Q
    unfold zb_Tokens_isOfWord_12
    refine zq_ite (fun c2 => ?_) fun c2 => ?_
    ·
      exact hQ _
    ·
      refine zq_ite (fun c3 => ?_) fun c3 => ?_
      ·
        exact hQ _
      ·
        show zq (zb_Tokens_isOfWord_24 σ) Q
        unfold zb_Tokens_isOfWord_24
        exact hQ _
  ·
    refine zq_ite (fun c4 => ?_) fun c4 => ?_
    ·
      show zq (zb_Tokens_isOfWord_24 σ) Q
      unfold zb_Tokens_isOfWord_24
      exact hQ _
    ·
      show zq (zb_Tokens_isOfWord_12 σ x1) Q
      unfold zb_Tokens_isOfWord_12
      refine zq_ite (fun c5 => ?_) fun c5 => ?_
      ·
        exact hQ _
      ·
        refine zq_ite (fun c6 => ?_) fun c6 => ?_
        ·
          exact hQ _
        ·
          show zq (zb_Tokens_isOfWord_24 σ) Q
          unfold zb_Tokens_isOfWord_24
          exact hQ _

theorem q_f_Tokens_isSign {σ0 : zS} {σ : zS} {x1 : Int32} {Q : (Int32) → Prop} (hJ : JX σ0 σ) (hQ : ∀ r, Q r) : zq (zf_Tokens_isSign σ x1) Q := by
  unfold zf_Tokens_isSign
  refine zq_ite (fun c1 => ?_) fun c1 => ?_
  ·
    exact hQ _
  ·
    refine zq_ite (fun c2 => ?_) fun c2 => ?_
    ·
      exact hQ _
    ·
      refine zq_ite (fun c3 => ?_) fun c3 => ?_
      ·
        exact hQ _
      ·
        refine zq_ite (fun c4 => ?_) fun c4 => ?_
        ·
          exact hQ _
        ·
          refine zq_ite (fun c5 => ?_) fun c5 => ?_
          ·
            exact hQ _
          ·
            refine zq_ite (fun c6 => ?_) fun c6 => ?_
            ·
              exact hQ _
            ·
              refine zq_ite (fun c7 => ?_) fun c7 => ?_
              ·
                exact hQ _
              ·
                refine zq_ite (fun c8 => ?_) fun c8 => ?_
                ·
                  exact hQ _
                ·
                  exact hQ _

theorem q_b_Tokens_takeSign_12 {σ0 : zS} {σ : zS} {v1 : Int32} {Q : (Int32 × zS) → Prop} (hJ : JX σ0 σ) (hQ : ∀ r, JX σ0 r.2 → Q r) : zq (zb_Tokens_takeSign_12 σ v1) Q := by
  unfold zb_Tokens_takeSign_12
  refine zq_bind (q_f_Tokens_byteAt hJ fun r2 => ?_)
  refine zq_ite (fun c1 => ?_) fun c1 => ?_
  ·
    show zq (zb_Tokens_takeSign_53 σ v1) Q
    unfold zb_Tokens_takeSign_53
    refine zq_bind (q_f_Tokens_isSign hJ fun r4 => ?_)
    refine zq_ite (fun c2 => ?_) fun c2 => ?_
    ·
      show zq (zb_Tokens_takeSign_66 σ 1) Q
      unfold zb_Tokens_takeSign_66
      exact hQ _ (JX.up (by decide) hJ)
    ·
      show zq (zb_Tokens_takeSign_66 σ v1) Q
      unfold zb_Tokens_takeSign_66
      exact hQ _ (JX.up (by decide) hJ)
  ·
    refine zq_ite (fun c3 => ?_) fun c3 => ?_
    ·
      show zq (zb_Tokens_takeSign_43 σ 257) Q
      unfold zb_Tokens_takeSign_43
      exact hQ _ (JX.up (by decide) hJ)
    ·
      show zq (zb_Tokens_takeSign_43 σ 256) Q
      unfold zb_Tokens_takeSign_43
      exact hQ _ (JX.up (by decide) hJ)

theorem q_f_Tokens_takeSign {σ0 : zS} {σ : zS} {x1 : Int32} {Q : (Int32 × zS) → Prop} (hJ : JX σ0 σ) (hQ : ∀ r, JX σ0 r.2 → Q r) : zq (zf_Tokens_takeSign σ x1) Q := by
  unfold zf_Tokens_takeSign
  refine zq_ite (fun c1 => ?_) fun c1 => ?_
  ·
    exact q_b_Tokens_takeSign_12 hJ hQ
  ·
    refine zq_ite (fun c2 => ?_) fun c2 => ?_
    ·
      show zq (zb_Tokens_takeSign_53 σ x1) Q
      unfold zb_Tokens_takeSign_53
      refine zq_bind (q_f_Tokens_isSign hJ fun r4 => ?_)
      refine zq_ite (fun c3 => ?_) fun c3 => ?_
      ·
        show zq (zb_Tokens_takeSign_66 σ 1) Q
        unfold zb_Tokens_takeSign_66
        exact hQ _ (JX.up (by decide) hJ)
      ·
        show zq (zb_Tokens_takeSign_66 σ x1) Q
        unfold zb_Tokens_takeSign_66
        exact hQ _ (JX.up (by decide) hJ)
    ·
      exact q_b_Tokens_takeSign_12 hJ hQ

theorem q_b_Tokens_takeWord_70 {N : Nat} (hN : zBig ≤ N) {σ0 : zS} {τ : zT} {v1 : Int32} {Q : (Int32 × zS × zT) → Prop} (hQ : ∀ r, JX σ0 r.2.1 → Q r) : ∀ (n : Nat) (σ : zS) (v2 : Int32), JX σ0 σ → (0 ≤ v2) → zmu v2 < n → zq (zb_Tokens_takeWord_70 N n σ τ v1 v2) Q := by
  intro n
  induction n with
  | zero => intro _ _ _ _ hn; exact absurd hn (Nat.not_lt_zero _)
  | succ n ih =>
    intro σ v2 hJ hI hn
    rw [zb_Tokens_takeWord_70]
    refine zq_ite (fun c1 => ?_) fun c1 => ?_
    ·
      exact hQ _ hJ
    ·
      refine zq_ite (fun c2 => ?_) fun c2 => ?_
      ·
        exact hQ _ hJ
      ·
        refine zq_chk (by (first | with_reducible assumption | omega | grind)) fun c3 => ?_
        refine zq_ite (fun c4 => ?_) fun c4 => ?_
        ·
          show zq (zb_Tokens_takeWord_108 (zb_Tokens_takeWord_70 N n) N σ τ v1 v2) Q
          unfold zb_Tokens_takeWord_108
          exact ih σ (v2 + 1) hJ (by (first | with_reducible assumption | omega | grind)) (by first | exact zmu_up (by assumption) hn | exact zmu_up (b := 2147483647) (by (first | with_reducible assumption | omega | grind)) hn | (first | with_reducible assumption | omega | grind))
        ·
          show zq (zb_Tokens_takeWord_108 (zb_Tokens_takeWord_70 N n) N (zx_up σ 25 7 (300 + v2)) τ v1 v2) Q
          unfold zb_Tokens_takeWord_108
          exact ih (zx_up σ 25 7 (300 + v2)) (v2 + 1) (JX.up (by decide) hJ) (by (first | with_reducible assumption | omega | grind)) (by first | exact zmu_up (by assumption) hn | exact zmu_up (b := 2147483647) (by (first | with_reducible assumption | omega | grind)) hn | (first | with_reducible assumption | omega | grind))

theorem q_b_Tokens_takeWord_5 {N : Nat} (hN : zBig ≤ N) {σ0 : zS} {σ : zS} {Q : (Int32 × zS × zT) → Prop} (hJ : JX σ0 σ) (hQ : ∀ r, JX σ0 r.2.1 → Q r) : ∀ (n : Nat) (τ : zT) (v1 : Int32), zmu v1 < n → zq (zb_Tokens_takeWord_5 N n σ τ v1) Q := by
  intro n
  induction n with
  | zero => intro _ _ hn; exact absurd hn (Nat.not_lt_zero _)
  | succ n ih =>
    intro τ v1 hn
    rw [zb_Tokens_takeWord_5]
    refine zq_ite (fun c1 => ?_) fun c1 => ?_
    ·
      show zq (zb_Tokens_takeWord_48 N σ τ v1) Q
      unfold zb_Tokens_takeWord_48
      refine zq_ite (fun c2 => ?_) fun c2 => ?_
      ·
        show zq (zb_Tokens_takeWord_65 N σ τ v1 3) Q
        unfold zb_Tokens_takeWord_65
        exact q_b_Tokens_takeWord_70 hN hQ N (zx_up σ 25 7 3) 0 (JX.up (by decide) hJ) (by (first | with_reducible assumption | omega | grind)) (by exact zmu_lt hN _)
      ·
        show zq (zb_Tokens_takeWord_65 N σ τ v1 1) Q
        unfold zb_Tokens_takeWord_65
        exact q_b_Tokens_takeWord_70 hN hQ N (zx_up σ 25 7 1) 0 (JX.up (by decide) hJ) (by (first | with_reducible assumption | omega | grind)) (by exact zmu_lt hN _)
    ·
      refine zq_bind (q_f_Tokens_byteAt hJ fun r7 => ?_)
      refine zq_bind (q_f_Tokens_isOfWord hJ fun r8 => ?_)
      refine zq_ite (fun c3 => ?_) fun c3 => ?_
      ·
        show zq (zb_Tokens_takeWord_48 N σ τ v1) Q
        unfold zb_Tokens_takeWord_48
        refine zq_ite (fun c4 => ?_) fun c4 => ?_
        ·
          show zq (zb_Tokens_takeWord_65 N σ τ v1 3) Q
          unfold zb_Tokens_takeWord_65
          exact q_b_Tokens_takeWord_70 hN hQ N (zx_up σ 25 7 3) 0 (JX.up (by decide) hJ) (by (first | with_reducible assumption | omega | grind)) (by exact zmu_lt hN _)
        ·
          show zq (zb_Tokens_takeWord_65 N σ τ v1 1) Q
          unfold zb_Tokens_takeWord_65
          exact q_b_Tokens_takeWord_70 hN hQ N (zx_up σ 25 7 1) 0 (JX.up (by decide) hJ) (by (first | with_reducible assumption | omega | grind)) (by exact zmu_lt hN _)
      ·
        refine zq_bind (q_f_Tokens_byteAt hJ fun r10 => ?_)
        exact ih (zx_up τ 25 9 ((zJ_lshl (τ 25 9) 8) ||| (r10 : Int32).toInt64)) (v1 + 1) (by first | exact zmu_up (by assumption) hn | exact zmu_up (b := 2147483647) (by (first | with_reducible assumption | omega | grind)) hn | (first | with_reducible assumption | omega | grind))

theorem q_f_Tokens_takeWord {N : Nat} (hN : zBig ≤ N) {σ0 : zS} {σ : zS} {τ : zT} {Q : (Int32 × zS × zT) → Prop} (hJ : JX σ0 σ) (hQ : ∀ r, JX σ0 r.2.1 → Q r) : zq (zf_Tokens_takeWord N σ τ) Q := by
  unfold zf_Tokens_takeWord
  exact q_b_Tokens_takeWord_5 hN hJ hQ N τ (σ 25 8) (by exact zmu_lt hN _)

theorem q_f_Tokens_takeNumber {σ0 : zS} {σ : zS} {τ : zT} {x1 : Int32} {Q : (Int32 × zS × zT) → Prop} (hJ : JX σ0 σ) (hQ : ∀ r, JX σ0 r.2.1 → Q r) : zq (zf_Tokens_takeNumber σ τ x1) Q := by
  unfold zf_Tokens_takeNumber
  refine zq_ite (fun c1 => ?_) fun c1 => ?_
  ·
    show zq (zb_Tokens_takeNumber_32 σ (zx_up τ 25 9 ((x1 - 48) : Int32).toInt64)) Q
    unfold zb_Tokens_takeNumber_32
    show zq (zb_Tokens_takeNumber_37 σ (zx_up τ 25 9 ((x1 - 48) : Int32).toInt64) 1) Q
    unfold zb_Tokens_takeNumber_37
    exact hQ _ (JX.up (by decide) hJ)
  ·
    refine zq_bind (q_f_Tokens_byteAt hJ fun r2 => ?_)
    refine zq_bind (q_f_Tokens_isOfWord hJ fun r3 => ?_)
    refine zq_ite (fun c2 => ?_) fun c2 => ?_
    ·
      show zq (zb_Tokens_takeNumber_37 σ (zx_up τ 25 9 ((x1 - 48) : Int32).toInt64) 2) Q
      unfold zb_Tokens_takeNumber_37
      exact hQ _ (JX.up (by decide) hJ)
    ·
      show zq (zb_Tokens_takeNumber_32 σ (zx_up τ 25 9 ((x1 - 48) : Int32).toInt64)) Q
      unfold zb_Tokens_takeNumber_32
      show zq (zb_Tokens_takeNumber_37 σ (zx_up τ 25 9 ((x1 - 48) : Int32).toInt64) 1) Q
      unfold zb_Tokens_takeNumber_37
      exact hQ _ (JX.up (by decide) hJ)

theorem q_f_Tokens_isBlank {σ0 : zS} {σ : zS} {x1 : Int32} {Q : (Int32) → Prop} (hJ : JX σ0 σ) (hQ : ∀ r, Q r) : zq (zf_Tokens_isBlank σ x1) Q := by
  unfold zf_Tokens_isBlank
  refine zq_ite (fun c1 => ?_) fun c1 => ?_
  ·
    show zq (zb_Tokens_isBlank_12 σ) Q
    unfold zb_Tokens_isBlank_12
    exact hQ _
  ·
    refine zq_ite (fun c2 => ?_) fun c2 => ?_
    ·
      exact hQ _
    ·
      show zq (zb_Tokens_isBlank_12 σ) Q
      unfold zb_Tokens_isBlank_12
      exact hQ _

theorem q_b_Tokens_takeToken_43 {N : Nat} (hN : zBig ≤ N) {σ0 : zS} {σ : zS} {τ : zT} {Q : (Int32 × zS × zT) → Prop} (hJ : JX σ0 σ) (hQ : ∀ r, JX σ0 r.2.1 → Q r) : zq (zb_Tokens_takeToken_43 N σ τ) Q := by
  unfold zb_Tokens_takeToken_43
  refine zq_bind (q_f_Tokens_byteAt hJ fun r2 => ?_)
  refine zq_ite (fun c1 => ?_) fun c1 => ?_
  ·
    refine zq_bind (q_f_Tokens_isOfWord hJ fun r4 => ?_)
    refine zq_ite (fun c2 => ?_) fun c2 => ?_
    ·
      refine zq_bind (q_f_Tokens_takeSign hJ fun r6 jr6 => ?_)
      exact hQ _ jr6
    ·
      refine zq_ite (fun c3 => ?_) fun c3 => ?_
      ·
        refine zq_bind (q_f_Tokens_takeWord hN hJ fun r8 jr8 => ?_)
        exact hQ _ jr8
      ·
        refine zq_bind (q_f_Tokens_takeNumber hJ fun r9 jr9 => ?_)
        exact hQ _ jr9
  ·
    exact hQ _ (JX.up (by decide) hJ)

theorem q_b_Tokens_takeToken_5 {N : Nat} (hN : zBig ≤ N) {σ0 : zS} {τ : zT} {Q : (Int32 × zS × zT) → Prop} (hQ : ∀ r, JX σ0 r.2.1 → Q r) : ∀ (n : Nat) (σ : zS), JX σ0 σ → zmu (σ 25 8) < n → zq (zb_Tokens_takeToken_5 N n σ τ) Q := by
  intro n
  induction n with
  | zero => intro _ _ hn; exact absurd hn (Nat.not_lt_zero _)
  | succ n ih =>
    intro σ hJ hn
    rw [zb_Tokens_takeToken_5]
    refine zq_ite (fun c1 => ?_) fun c1 => ?_
    ·
      exact q_b_Tokens_takeToken_43 hN hJ hQ
    ·
      refine zq_bind (q_f_Tokens_byteAt hJ fun r10 => ?_)
      refine zq_bind (q_f_Tokens_isBlank hJ fun r11 => ?_)
      refine zq_ite (fun c2 => ?_) fun c2 => ?_
      ·
        exact q_b_Tokens_takeToken_43 hN hJ hQ
      ·
        exact ih (zx_up σ 25 8 ((σ 25 8) + 1)) (JX.up (by decide) hJ) (by show zmu (σ 25 8 + 1) < n; exact zmu_up (by assumption) hn)

theorem q_f_Tokens_takeToken {N : Nat} (hN : zBig ≤ N) {σ0 : zS} {σ : zS} {τ : zT} {x1 : Int32} {Q : (Int32 × zS × zT) → Prop} (hJ : JX σ0 σ) (hQ : ∀ r, JX σ0 r.2.1 → Q r) : zq (zf_Tokens_takeToken N σ τ x1) Q := by
  unfold zf_Tokens_takeToken
  exact q_b_Tokens_takeToken_5 hN hQ N (zx_up σ 25 8 x1) (JX.up (by decide) hJ) (by exact zmu_lt hN _)

theorem q_b_Tokens_scan_19 {N : Nat} (hN : zBig ≤ N) {σ0 : zS} {Q : (zS × zT) → Prop} (hQ : ∀ r, JX σ0 r.1 → Q r) : ∀ (n : Nat) (σ : zS) (τ : zT) (v2 : Int32) (v3 : Int32), JX σ0 σ → (0 ≤ v3) → zmu v3 < n → zq (zb_Tokens_scan_19 N n σ τ v2 v3) Q := by
  intro n
  induction n with
  | zero => intro _ _ _ _ _ _ hn; exact absurd hn (Nat.not_lt_zero _)
  | succ n ih =>
    intro σ τ v2 v3 hJ hI hn
    rw [zb_Tokens_scan_19]
    refine zq_ite (fun c1 => ?_) fun c1 => ?_
    ·
      show zq (zb_Tokens_scan_93 N σ τ) Q
      unfold zb_Tokens_scan_93
      refine zq_bind (q_f_Tokens_advance (JX.up (by decide) hJ) fun r2 jr2 => ?_)
      exact hQ _ jr2
    ·
      refine zq_ite (fun c2 => ?_) fun c2 => ?_
      ·
        show zq (zb_Tokens_scan_93 N σ τ) Q
        unfold zb_Tokens_scan_93
        refine zq_bind (q_f_Tokens_advance (JX.up (by decide) hJ) fun r2 jr2 => ?_)
        exact hQ _ jr2
      ·
        refine zq_ite (fun c3 => ?_) fun c3 => ?_
        ·
          show zq (zb_Tokens_scan_93 N σ τ) Q
          unfold zb_Tokens_scan_93
          refine zq_bind (q_f_Tokens_advance (JX.up (by decide) hJ) fun r2 jr2 => ?_)
          exact hQ _ jr2
        ·
          refine zq_bind (q_f_Tokens_takeToken hN hJ fun r5 jr5 => ?_)
          refine zq_chk (by (first | with_reducible assumption | omega | grind)) fun c4 => ?_
          refine zq_chk (by (first | with_reducible assumption | omega | grind)) fun c5 => ?_
          refine zq_chk (by (first | with_reducible assumption | omega | grind)) fun c6 => ?_
          exact ih (zx_up (zx_up (zx_up r5.2.1 26 v3.toNatClampNeg (r5.2.1 25 7)) 27 v3.toNatClampNeg (r5.2.1 25 8)) 25 5 ((r5.2.1 25 5) + 1)) (zx_up r5.2.2 28 v3.toNatClampNeg (r5.2.2 25 9)) r5.1 (v3 + 1) (JX.up (by decide) (JX.up (by decide) (JX.up (by decide) jr5))) (by (first | with_reducible assumption | omega | grind)) (by first | exact zmu_up (by assumption) hn | exact zmu_up (b := 2147483647) (by (first | with_reducible assumption | omega | grind)) hn | (first | with_reducible assumption | omega | grind))

theorem q_f_Tokens_scan {N : Nat} (hN : zBig ≤ N) {σ0 : zS} {σ : zS} {τ : zT} {x1 : Int32} {Q : (zS × zT) → Prop} (hJ : JX σ0 σ) (hQ : ∀ r, JX σ0 r.1 → Q r) : zq (zf_Tokens_scan N σ τ x1) Q := by
  unfold zf_Tokens_scan
  exact q_b_Tokens_scan_19 hN hQ N (zx_up (zx_up (zx_up σ 25 4 x1) 25 5 0) 25 7 3) τ 0 0 (JX.up (by decide) (JX.up (by decide) (JX.up (by decide) hJ))) (by (first | with_reducible assumption | omega | grind)) (by exact zmu_lt hN _)

theorem q_f_Program_slotOf {σ0 : zS} {σ : zS} {x1 : Int32} {x2 : Int32} {Q : (Int32) → Prop} (hJ : JX σ0 σ) (hQ : ∀ r, (0 ≤ r ∧ r ≤ 96) → Q r) : zq (zf_Program_slotOf σ x1 x2) Q := by
  unfold zf_Program_slotOf
  refine zq_ite (fun c1 => ?_) fun c1 => ?_
  ·
    show zq (zb_Program_slotOf_33 σ x1 x2) Q
    unfold zb_Program_slotOf_33
    show zq (zb_Program_slotOf_34 σ x1 x2 0) Q
    unfold zb_Program_slotOf_34
    refine zq_ite (fun c2 => ?_) fun c2 => ?_
    ·
      exact hQ _ (by (first | with_reducible assumption | omega | grind))
    ·
      exact hQ _ (by (first | with_reducible assumption | omega | grind))
  ·
    refine zq_ite (fun c3 => ?_) fun c3 => ?_
    ·
      show zq (zb_Program_slotOf_33 σ x1 x2) Q
      unfold zb_Program_slotOf_33
      show zq (zb_Program_slotOf_34 σ x1 x2 0) Q
      unfold zb_Program_slotOf_34
      refine zq_ite (fun c4 => ?_) fun c4 => ?_
      ·
        exact hQ _ (by (first | with_reducible assumption | omega | grind))
      ·
        exact hQ _ (by (first | with_reducible assumption | omega | grind))
    ·
      refine zq_ite (fun c5 => ?_) fun c5 => ?_
      ·
        show zq (zb_Program_slotOf_33 σ x1 x2) Q
        unfold zb_Program_slotOf_33
        show zq (zb_Program_slotOf_34 σ x1 x2 0) Q
        unfold zb_Program_slotOf_34
        refine zq_ite (fun c6 => ?_) fun c6 => ?_
        ·
          exact hQ _ (by (first | with_reducible assumption | omega | grind))
        ·
          exact hQ _ (by (first | with_reducible assumption | omega | grind))
      ·
        refine zq_ite (fun c7 => ?_) fun c7 => ?_
        ·
          show zq (zb_Program_slotOf_33 σ x1 x2) Q
          unfold zb_Program_slotOf_33
          show zq (zb_Program_slotOf_34 σ x1 x2 0) Q
          unfold zb_Program_slotOf_34
          refine zq_ite (fun c8 => ?_) fun c8 => ?_
          ·
            exact hQ _ (by (first | with_reducible assumption | omega | grind))
          ·
            exact hQ _ (by (first | with_reducible assumption | omega | grind))
        ·
          refine zq_chk (by (first | with_reducible assumption | omega | grind)) fun c9 => ?_
          refine zq_ite (fun c10 => ?_) fun c10 => ?_
          ·
            show zq (zb_Program_slotOf_33 σ x1 x2) Q
            unfold zb_Program_slotOf_33
            show zq (zb_Program_slotOf_34 σ x1 x2 0) Q
            unfold zb_Program_slotOf_34
            refine zq_ite (fun c11 => ?_) fun c11 => ?_
            ·
              exact hQ _ (by (first | with_reducible assumption | omega | grind))
            ·
              exact hQ _ (by (first | with_reducible assumption | omega | grind))
          ·
            show zq (zb_Program_slotOf_34 σ x1 x2 1) Q
            unfold zb_Program_slotOf_34
            refine zq_ite (fun c12 => ?_) fun c12 => ?_
            ·
              exact hQ _ (by (first | with_reducible assumption | omega | grind))
            ·
              exact hQ _ (by (first | with_reducible assumption | omega | grind))

theorem q_b_Names_numberOf_3 {N : Nat} (hN : zBig ≤ N) {σ0 : zS} {σ : zS} {τ : zT} {v1 : Int64} {v3 : Int32} {Q : (Int32) → Prop} (hJ : JX σ0 σ) (hQ : ∀ r, Q r) : ∀ (n : Nat) (v4 : Int32), (0 ≤ v4) → zmu v4 < n → zq (zb_Names_numberOf_3 N n σ τ v1 v3 v4) Q := by
  intro n
  induction n with
  | zero => intro _ _ hn; exact absurd hn (Nat.not_lt_zero _)
  | succ n ih =>
    intro v4 hI hn
    rw [zb_Names_numberOf_3]
    refine zq_ite (fun c1 => ?_) fun c1 => ?_
    ·
      exact hQ _
    ·
      refine zq_ite (fun c2 => ?_) fun c2 => ?_
      ·
        exact hQ _
      ·
        refine zq_chk (by (first | with_reducible assumption | omega | grind)) fun c3 => ?_
        refine zq_ite (fun c4 => ?_) fun c4 => ?_
        ·
          show zq (zb_Names_numberOf_50 (zb_Names_numberOf_3 N n) N σ τ v1 v3 v4) Q
          unfold zb_Names_numberOf_50
          exact ih (v4 + 1) (by (first | with_reducible assumption | omega | grind)) (by first | exact zmu_up (by assumption) hn | exact zmu_up (b := 2147483647) (by (first | with_reducible assumption | omega | grind)) hn | (first | with_reducible assumption | omega | grind))
        ·
          refine zq_chk (by (first | with_reducible assumption | omega | grind)) fun c5 => ?_
          refine zq_ite (fun c6 => ?_) fun c6 => ?_
          ·
            show zq (zb_Names_numberOf_50 (zb_Names_numberOf_3 N n) N σ τ v1 v3 v4) Q
            unfold zb_Names_numberOf_50
            exact ih (v4 + 1) (by (first | with_reducible assumption | omega | grind)) (by first | exact zmu_up (by assumption) hn | exact zmu_up (b := 2147483647) (by (first | with_reducible assumption | omega | grind)) hn | (first | with_reducible assumption | omega | grind))
          ·
            refine zq_chk (by (first | with_reducible assumption | omega | grind)) fun c7 => ?_
            exact hQ _

theorem q_f_Names_numberOf {N : Nat} (hN : zBig ≤ N) {σ0 : zS} {σ : zS} {τ : zT} {x1 : Int64} {x2 : Int32} {Q : (Int32) → Prop} (hJ : JX σ0 σ) (hQ : ∀ r, Q r) : zq (zf_Names_numberOf N σ τ x1 x2) Q := by
  unfold zf_Names_numberOf
  exact q_b_Names_numberOf_3 hN hJ hQ N 0 (by (first | with_reducible assumption | omega | grind)) (by exact zmu_lt hN _)

theorem q_f_Program_setThread {σ0 : zS} {σ : zS} {x1 : Int32} {x2 : Int32} {Q : (zS) → Prop} (hJ : JX σ0 σ) (hQ : ∀ r, JX σ0 r → Q r) : zq (zf_Program_setThread σ x1 x2) Q := by
  unfold zf_Program_setThread
  refine zq_ite (fun c1 => ?_) fun c1 => ?_
  ·
    exact hQ _ hJ
  ·
    refine zq_ite (fun c2 => ?_) fun c2 => ?_
    ·
      exact hQ _ hJ
    ·
      refine zq_ite (fun c3 => ?_) fun c3 => ?_
      ·
        exact hQ _ hJ
      ·
        refine zq_ite (fun c4 => ?_) fun c4 => ?_
        ·
          exact hQ _ hJ
        ·
          refine zq_chk (by (first | with_reducible assumption | omega | grind)) fun c5 => ?_
          refine zq_chk (by (first | with_reducible assumption | omega | grind)) fun c6 => ?_
          refine zq_ite (fun c7 => ?_) fun c7 => ?_
          ·
            exact hQ _ (JX.up (by decide) hJ)
          ·
            refine zq_chk (by (first | with_reducible assumption | omega | grind)) fun c8 => ?_
            refine zq_chk (by (first | with_reducible assumption | omega | grind)) fun c9 => ?_
            exact hQ _ (JX.up (by decide) (JX.up (by decide) hJ))

theorem q_f_Reader_findThread {N : Nat} (hN : zBig ≤ N) {σ0 : zS} {σ : zS} {τ : zT} {x1 : Int32} {Q : (zS) → Prop} (hJ : JX σ0 σ) (hQ : ∀ r, JX σ0 r → Q r) : zq (zf_Reader_findThread N σ τ x1) Q := by
  unfold zf_Reader_findThread
  refine zq_bind (q_f_Program_slotOf hJ fun r1 pr1 => ?_)
  refine zq_chk (by (first | with_reducible assumption | omega | grind)) fun c1 => ?_
  refine zq_ite (fun c2 => ?_) fun c2 => ?_
  ·
    exact hQ _ hJ
  ·
    refine zq_ite (fun c3 => ?_) fun c3 => ?_
    ·
      show zq (zb_Reader_findThread_45 N σ τ r1) Q
      unfold zb_Reader_findThread_45
      refine zq_chk (by (first | with_reducible assumption | omega | grind)) fun c4 => ?_
      refine zq_bind (q_f_Names_numberOf hN hJ fun r6 => ?_)
      refine zq_ite (fun c5 => ?_) fun c5 => ?_
      ·
        refine zq_bind (q_f_Program_setThread hJ fun r8 jr8 => ?_)
        exact hQ _ jr8
      ·
        refine zq_chk (by (first | with_reducible assumption | omega | grind)) fun c6 => ?_
        exact hQ _ (JX.up (by decide) (JX.up (by decide) hJ))
    ·
      refine zq_ite (fun c7 => ?_) fun c7 => ?_
      ·
        show zq (zb_Reader_findThread_45 N σ τ r1) Q
        unfold zb_Reader_findThread_45
        refine zq_chk (by (first | with_reducible assumption | omega | grind)) fun c8 => ?_
        refine zq_bind (q_f_Names_numberOf hN hJ fun r6 => ?_)
        refine zq_ite (fun c9 => ?_) fun c9 => ?_
        ·
          refine zq_bind (q_f_Program_setThread hJ fun r8 jr8 => ?_)
          exact hQ _ jr8
        ·
          refine zq_chk (by (first | with_reducible assumption | omega | grind)) fun c10 => ?_
          exact hQ _ (JX.up (by decide) (JX.up (by decide) hJ))
      ·
        exact hQ _ hJ

theorem q_f_Reader_failHere {σ0 : zS} {σ : zS} {x1 : Int32} {Q : (Int32 × zS) → Prop} (hJ : JX σ0 σ) (hQ : ∀ r, JX σ0 r.2 → (r.1 = 0 ∨ r.1 = 1) → Q r) : zq (zf_Reader_failHere σ x1) Q := by
  unfold zf_Reader_failHere
  refine zq_ite (fun c1 => ?_) fun c1 => ?_
  ·
    show zq (zb_Reader_failHere_17 σ x1) Q
    unfold zb_Reader_failHere_17
    exact hQ _ (JX.up (by decide) (JX.up (by decide) hJ)) (by (first | with_reducible assumption | omega | grind))
  ·
    show zq (zb_Reader_failHere_17 σ 1) Q
    unfold zb_Reader_failHere_17
    exact hQ _ (JX.up (by decide) (JX.up (by decide) hJ)) (by (first | with_reducible assumption | omega | grind))

theorem q_b_Names_sortOf_2 {N : Nat} (hN : zBig ≤ N) {σ0 : zS} {σ : zS} {τ : zT} {v1 : Int64} {Q : (Int32) → Prop} (hJ : JX σ0 σ) (hQ : ∀ r, Q r) : ∀ (n : Nat) (v3 : Int32), (0 ≤ v3) → zmu v3 < n → zq (zb_Names_sortOf_2 N n σ τ v1 v3) Q := by
  intro n
  induction n with
  | zero => intro _ _ hn; exact absurd hn (Nat.not_lt_zero _)
  | succ n ih =>
    intro v3 hI hn
    rw [zb_Names_sortOf_2]
    refine zq_ite (fun c1 => ?_) fun c1 => ?_
    ·
      exact hQ _
    ·
      refine zq_ite (fun c2 => ?_) fun c2 => ?_
      ·
        exact hQ _
      ·
        refine zq_chk (by (first | with_reducible assumption | omega | grind)) fun c3 => ?_
        refine zq_ite (fun c4 => ?_) fun c4 => ?_
        ·
          exact ih (v3 + 1) (by (first | with_reducible assumption | omega | grind)) (by first | exact zmu_up (by assumption) hn | exact zmu_up (b := 2147483647) (by (first | with_reducible assumption | omega | grind)) hn | (first | with_reducible assumption | omega | grind))
        ·
          refine zq_chk (by (first | with_reducible assumption | omega | grind)) fun c5 => ?_
          exact hQ _

theorem q_f_Names_sortOf {N : Nat} (hN : zBig ≤ N) {σ0 : zS} {σ : zS} {τ : zT} {x1 : Int64} {Q : (Int32) → Prop} (hJ : JX σ0 σ) (hQ : ∀ r, Q r) : zq (zf_Names_sortOf N σ τ x1) Q := by
  unfold zf_Names_sortOf
  exact q_b_Names_sortOf_2 hN hJ hQ N 0 (by (first | with_reducible assumption | omega | grind)) (by exact zmu_lt hN _)

theorem q_f_Names_tell {σ0 : zS} {σ : zS} {τ : zT} {x1 : Int64} {x2 : Int32} {x3 : Int32} {Q : (zS × zT) → Prop} (hJ : JX σ0 σ) (hQ : ∀ r, JX σ0 r.1 → Q r) : zq (zf_Names_tell σ τ x1 x2 x3) Q := by
  unfold zf_Names_tell
  refine zq_ite (fun c1 => ?_) fun c1 => ?_
  ·
    exact hQ _ hJ
  ·
    refine zq_ite (fun c2 => ?_) fun c2 => ?_
    ·
      exact hQ _ hJ
    ·
      refine zq_chk (by (first | with_reducible assumption | omega | grind)) fun c3 => ?_
      refine zq_chk (by (first | with_reducible assumption | omega | grind)) fun c4 => ?_
      refine zq_chk (by (first | with_reducible assumption | omega | grind)) fun c5 => ?_
      exact hQ _ (JX.up (by decide) (JX.up (by decide) (JX.up (by decide) hJ)))

theorem q_f_Reader_tellName {N : Nat} (hN : zBig ≤ N) {σ0 : zS} {σ : zS} {τ : zT} {x1 : Int32} {x2 : Int32} {x3 : Int32} {Q : (Int32 × zS × zT) → Prop} (hJ : JX σ0 σ) (hQ : ∀ r, JX σ0 r.2.1 → (r.1 = 0 ∨ r.1 = 1) → Q r) : zq (zf_Reader_tellName N σ τ x1 x2 x3) Q := by
  unfold zf_Reader_tellName
  refine zq_ite (fun c1 => ?_) fun c1 => ?_
  ·
    refine zq_bind (q_f_Names_sortOf hN hJ fun r2 => ?_)
    refine zq_ite (fun c2 => ?_) fun c2 => ?_
    ·
      refine zq_ite (fun c3 => ?_) fun c3 => ?_
      ·
        refine zq_bind (q_f_Names_tell hJ fun r5 jr5 => ?_)
        refine zq_bind (q_f_Tokens_advance jr5 fun r6 jr6 => ?_)
        exact hQ _ jr6 (by (first | with_reducible assumption | omega | grind))
      ·
        refine zq_bind (q_f_Reader_failHere hJ fun r7 jr7 pr7 => ?_)
        refine zq_chk (by (first | with_reducible assumption | omega | grind)) fun c4 => ?_
        exact hQ _ jr7 (by (first | with_reducible assumption | omega | grind))
    ·
      refine zq_bind (q_f_Reader_failHere hJ fun r9 jr9 pr9 => ?_)
      refine zq_chk (by (first | with_reducible assumption | omega | grind)) fun c5 => ?_
      exact hQ _ jr9 (by (first | with_reducible assumption | omega | grind))
  ·
    refine zq_bind (q_f_Reader_failHere hJ fun r11 jr11 pr11 => ?_)
    refine zq_chk (by (first | with_reducible assumption | omega | grind)) fun c6 => ?_
    exact hQ _ jr11 (by (first | with_reducible assumption | omega | grind))

theorem q_f_Names_forgetLocals {σ0 : zS} {σ : zS} {Q : (zS) → Prop} (hJ : JX σ0 σ) (hQ : ∀ r, JX σ0 r → Q r) : zq (zf_Names_forgetLocals σ) Q := by
  unfold zf_Names_forgetLocals
  exact hQ _ (JX.up (by decide) hJ)

theorem q_f_Reader_expect {σ0 : zS} {σ : zS} {τ : zT} {x1 : Int32} {Q : (Int32 × zS × zT) → Prop} (hJ : JX σ0 σ) (hQ : ∀ r, JX σ0 r.2.1 → (r.1 = 0 ∨ r.1 = 1) → Q r) : zq (zf_Reader_expect σ τ x1) Q := by
  unfold zf_Reader_expect
  refine zq_ite (fun c1 => ?_) fun c1 => ?_
  ·
    refine zq_bind (q_f_Tokens_advance hJ fun r2 jr2 => ?_)
    exact hQ _ jr2 (by (first | with_reducible assumption | omega | grind))
  ·
    refine zq_bind (q_f_Reader_failHere hJ fun r3 jr3 pr3 => ?_)
    refine zq_chk (by (first | with_reducible assumption | omega | grind)) fun c2 => ?_
    exact hQ _ jr3 (by (first | with_reducible assumption | omega | grind))
theorem q_f_Weaver_enter {σ0 : zS} {σ : zS} {x1 : Int32} {x2 : Int32} {Q : (zS) → Prop} (hJ : JX σ0 σ) (hQ : ∀ r, JX σ0 r → Q r) : zq (zf_Weaver_enter σ x1 x2) Q := by
  unfold zf_Weaver_enter
  refine zq_ite (fun c1 => ?_) fun c1 => ?_
  ·
    exact hQ _ hJ
  ·
    refine zq_ite (fun c2 => ?_) fun c2 => ?_
    ·
      refine zq_chk (by (first | with_reducible assumption | omega | grind)) fun c3 => ?_
      refine zq_chk (by (first | with_reducible assumption | omega | grind)) fun c4 => ?_
      refine zq_chk (by (first | with_reducible assumption | omega | grind)) fun c5 => ?_
      refine zq_chk (by (first | with_reducible assumption | omega | grind)) fun c6 => ?_
      refine zq_chk (by (first | with_reducible assumption | omega | grind)) fun c7 => ?_
      refine zq_ite (fun c8 => ?_) fun c8 => ?_
      ·
        refine zq_ite (fun c9 => ?_) fun c9 => ?_
        ·
          exact hQ _ (JX.up (by decide) (JX.up (by decide) (JX.up (by decide) (JX.up (by decide) (JX.up (by decide) (JX.up (by decide) hJ))))))
        ·
          exact hQ _ (JX.up (by decide) (JX.up (by decide) (JX.up (by decide) (JX.up (by decide) (JX.up (by decide) (JX.up (by decide) (JX.up (by decide) (JX.up (by decide) hJ))))))))
      ·
        exact hQ _ (JX.up (by decide) (JX.up (by decide) (JX.up (by decide) (JX.up (by decide) (JX.up (by decide) (JX.up (by decide) (JX.up (by decide) hJ)))))))
    ·
      exact hQ _ hJ

theorem q_f_Reader_openBlock {σ0 : zS} {σ : zS} {τ : zT} {x1 : Int32} {x2 : Int32} {Q : (zS × zT) → Prop} (hJ : JX σ0 σ) (hQ : ∀ r, JX σ0 r.1 → Q r) : zq (zf_Reader_openBlock σ τ x1 x2) Q := by
  unfold zf_Reader_openBlock
  refine zq_ite (fun c1 => ?_) fun c1 => ?_
  ·
    show zq (zb_Reader_openBlock_33 σ τ x1 x2) Q
    unfold zb_Reader_openBlock_33
    refine zq_bind (q_f_Reader_expect hJ fun r2 jr2 pr2 => ?_)
    refine zq_ite (fun c2 => ?_) fun c2 => ?_
    ·
      exact hQ _ jr2
    ·
      refine zq_bind (q_f_Weaver_enter jr2 fun r4 jr4 => ?_)
      exact hQ _ jr4
  ·
    refine zq_ite (fun c3 => ?_) fun c3 => ?_
    ·
      show zq (zb_Reader_openBlock_33 σ τ x1 x2) Q
      unfold zb_Reader_openBlock_33
      refine zq_bind (q_f_Reader_expect hJ fun r2 jr2 pr2 => ?_)
      refine zq_ite (fun c4 => ?_) fun c4 => ?_
      ·
        exact hQ _ jr2
      ·
        refine zq_bind (q_f_Weaver_enter jr2 fun r4 jr4 => ?_)
        exact hQ _ jr4
    ·
      refine zq_bind (q_f_Reader_failHere hJ fun r6 jr6 pr6 => ?_)
      exact hQ _ jr6

theorem q_f_Reader_tellThread {N : Nat} (hN : zBig ≤ N) {σ0 : zS} {σ : zS} {τ : zT} {Q : (zS × zT) → Prop} (hJ : JX σ0 σ) (hQ : ∀ r, JX σ0 r.1 → Q r) : zq (zf_Reader_tellThread N σ τ) Q := by
  unfold zf_Reader_tellThread
  refine zq_bind (q_f_Tokens_advance hJ fun r1 jr1 => ?_)
  refine zq_bind (q_f_Reader_tellName hN jr1 fun r2 jr2 pr2 => ?_)
  refine zq_ite (fun c1 => ?_) fun c1 => ?_
  ·
    exact hQ _ jr2
  ·
    refine zq_bind (q_f_Names_forgetLocals jr2 fun r4 jr4 => ?_)
    refine zq_bind (q_f_Weaver_beginThread jr4 fun r5 jr5 => ?_)
    refine zq_bind (q_f_Reader_openBlock (JX.up (by decide) jr5) fun r6 jr6 => ?_)
    exact hQ _ jr6

theorem q_f_Reader_tellLock {N : Nat} (hN : zBig ≤ N) {σ0 : zS} {σ : zS} {τ : zT} {Q : (zS × zT) → Prop} (hJ : JX σ0 σ) (hQ : ∀ r, JX σ0 r.1 → Q r) : zq (zf_Reader_tellLock N σ τ) Q := by
  unfold zf_Reader_tellLock
  refine zq_bind (q_f_Tokens_advance hJ fun r1 jr1 => ?_)
  refine zq_bind (q_f_Reader_tellName hN jr1 fun r2 jr2 pr2 => ?_)
  refine zq_ite (fun c1 => ?_) fun c1 => ?_
  ·
    exact hQ _ jr2
  ·
    refine zq_bind (q_f_Reader_expect jr2 fun r4 jr4 pr4 => ?_)
    refine zq_ite (fun c2 => ?_) fun c2 => ?_
    ·
      exact hQ _ jr4
    ·
      exact hQ _ (JX.up (by decide) jr4)

theorem q_f_Program_addField {σ0 : zS} {σ : zS} {x1 : Int32} {x2 : Int32} {Q : (zS) → Prop} (hJ : JX σ0 σ) (hQ : ∀ r, JX σ0 r → Q r) : zq (zf_Program_addField σ x1 x2) Q := by
  unfold zf_Program_addField
  refine zq_ite (fun c1 => ?_) fun c1 => ?_
  ·
    show zq (zb_Program_addField_36 (zx_up σ 4 5 ((σ 4 5) ||| (zJ_shl x1 (3 * (σ 4 0)))))) Q
    unfold zb_Program_addField_36
    exact hQ _ (JX.up (by decide) (JX.up (by decide) hJ))
  ·
    show zq (zb_Program_addField_36 (zx_up (zx_up σ 4 5 ((σ 4 5) ||| (zJ_shl x1 (3 * (σ 4 0))))) 4 6 ((σ 4 6) ||| (zJ_shl 1 (σ 4 0))))) Q
    unfold zb_Program_addField_36
    exact hQ _ (JX.up (by decide) (JX.up (by decide) (JX.up (by decide) hJ)))

theorem q_f_Reader_tellField {N : Nat} (hN : zBig ≤ N) {σ0 : zS} {σ : zS} {τ : zT} {x1 : Int32} {Q : (zS × zT) → Prop} (hJ : JX σ0 σ) (hQ : ∀ r, JX σ0 r.1 → Q r) : zq (zf_Reader_tellField N σ τ x1) Q := by
  unfold zf_Reader_tellField
  refine zq_bind (q_f_Tokens_advance hJ fun r1 jr1 => ?_)
  refine zq_bind (q_f_Reader_tellName hN jr1 fun r2 jr2 pr2 => ?_)
  refine zq_ite (fun c1 => ?_) fun c1 => ?_
  ·
    refine zq_ite (fun c2 => ?_) fun c2 => ?_
    ·
      show zq (zb_Reader_tellField_64 N r2.2.1 r2.2.2 x1 0) Q
      unfold zb_Reader_tellField_64
      refine zq_bind (q_f_Reader_expect jr2 fun r5 jr5 pr5 => ?_)
      refine zq_ite (fun c3 => ?_) fun c3 => ?_
      ·
        exact hQ _ jr5
      ·
        refine zq_bind (q_f_Program_addField jr5 fun r7 jr7 => ?_)
        exact hQ _ jr7
    ·
      refine zq_bind (q_f_Tokens_advance jr2 fun r8 jr8 => ?_)
      refine zq_bind (q_f_Reader_expect jr8 fun r9 jr9 pr9 => ?_)
      refine zq_ite (fun c4 => ?_) fun c4 => ?_
      ·
        show zq (zb_Reader_tellField_64 N r9.2.1 r9.2.2 x1 ((r8.2 25 9) : Int64).toInt32) Q
        unfold zb_Reader_tellField_64
        refine zq_bind (q_f_Reader_expect jr9 fun r5 jr5 pr5 => ?_)
        refine zq_ite (fun c5 => ?_) fun c5 => ?_
        ·
          exact hQ _ jr5
        ·
          refine zq_bind (q_f_Program_addField jr5 fun r7 jr7 => ?_)
          exact hQ _ jr7
      ·
        exact hQ _ jr9
  ·
    exact hQ _ jr2

theorem q_b_Reader_readTelling_61 {N : Nat} (hN : zBig ≤ N) {σ0 : zS} {σ : zS} {τ : zT} {v1 : Int32} {v2 : Int32} {Q : (zS × zT) → Prop} (hJ : JX σ0 σ) (hQ : ∀ r, JX σ0 r.1 → Q r) : zq (zb_Reader_readTelling_61 N σ τ v1 v2) Q := by
  unfold zb_Reader_readTelling_61
  refine zq_ite (fun c1 => ?_) fun c1 => ?_
  ·
    show zq (zb_Reader_readTelling_79 N σ τ v1) Q
    unfold zb_Reader_readTelling_79
    refine zq_ite (fun c2 => ?_) fun c2 => ?_
    ·
      refine zq_bind (q_f_Reader_failHere hJ fun r5 jr5 pr5 => ?_)
      exact hQ _ jr5
    ·
      refine zq_bind (q_f_Reader_tellThread hN hJ fun r6 jr6 => ?_)
      exact hQ _ jr6
  ·
    refine zq_ite (fun c3 => ?_) fun c3 => ?_
    ·
      show zq (zb_Reader_readTelling_79 N σ τ v1) Q
      unfold zb_Reader_readTelling_79
      refine zq_ite (fun c4 => ?_) fun c4 => ?_
      ·
        refine zq_bind (q_f_Reader_failHere hJ fun r5 jr5 pr5 => ?_)
        exact hQ _ jr5
      ·
        refine zq_bind (q_f_Reader_tellThread hN hJ fun r6 jr6 => ?_)
        exact hQ _ jr6
    ·
      refine zq_bind (q_f_Reader_tellLock hN hJ fun r8 jr8 => ?_)
      exact hQ _ jr8

theorem q_b_Reader_readTelling_23 {N : Nat} (hN : zBig ≤ N) {σ0 : zS} {σ : zS} {τ : zT} {v1 : Int32} {s0 : Int32} {Q : (zS × zT) → Prop} (hJ : JX σ0 σ) (hQ : ∀ r, JX σ0 r.1 → Q r) : zq (zb_Reader_readTelling_23 N σ τ v1 s0) Q := by
  unfold zb_Reader_readTelling_23
  refine zq_ite (fun c1 => ?_) fun c1 => ?_
  ·
    exact q_b_Reader_readTelling_61 hN hJ hQ
  ·
    refine zq_ite (fun c2 => ?_) fun c2 => ?_
    ·
      show zq (zb_Reader_readTelling_42 N σ τ v1) Q
      unfold zb_Reader_readTelling_42
      refine zq_ite (fun c3 => ?_) fun c3 => ?_
      ·
        show zq (zb_Reader_readTelling_55 N σ τ 0) Q
        unfold zb_Reader_readTelling_55
        refine zq_bind (q_f_Reader_tellField hN hJ fun r11 jr11 => ?_)
        exact hQ _ jr11
      ·
        show zq (zb_Reader_readTelling_55 N σ τ 1) Q
        unfold zb_Reader_readTelling_55
        refine zq_bind (q_f_Reader_tellField hN hJ fun r11 jr11 => ?_)
        exact hQ _ jr11
    ·
      refine zq_ite (fun c4 => ?_) fun c4 => ?_
      ·
        exact q_b_Reader_readTelling_61 hN hJ hQ
      ·
        show zq (zb_Reader_readTelling_42 N σ τ v1) Q
        unfold zb_Reader_readTelling_42
        refine zq_ite (fun c5 => ?_) fun c5 => ?_
        ·
          show zq (zb_Reader_readTelling_55 N σ τ 0) Q
          unfold zb_Reader_readTelling_55
          refine zq_bind (q_f_Reader_tellField hN hJ fun r11 jr11 => ?_)
          exact hQ _ jr11
        ·
          show zq (zb_Reader_readTelling_55 N σ τ 1) Q
          unfold zb_Reader_readTelling_55
          refine zq_bind (q_f_Reader_tellField hN hJ fun r11 jr11 => ?_)
          exact hQ _ jr11

theorem q_f_Reader_readTelling {N : Nat} (hN : zBig ≤ N) {σ0 : zS} {σ : zS} {τ : zT} {Q : (zS × zT) → Prop} (hJ : JX σ0 σ) (hQ : ∀ r, JX σ0 r.1 → Q r) : zq (zf_Reader_readTelling N σ τ) Q := by
  unfold zf_Reader_readTelling
  refine zq_ite (fun c1 => ?_) fun c1 => ?_
  ·
    exact q_b_Reader_readTelling_23 hN hJ hQ
  ·
    exact q_b_Reader_readTelling_23 hN hJ hQ

theorem q_f_Weaver_isInSpan {σ0 : zS} {σ : zS} {Q : (Int32) → Prop} (hJ : JX σ0 σ) (hQ : ∀ r, Q r) : zq (zf_Weaver_isInSpan σ) Q := by
  unfold zf_Weaver_isInSpan
  refine zq_ite (fun c1 => ?_) fun c1 => ?_
  ·
    exact hQ _
  ·
    exact hQ _

theorem q_f_Reader_readSpan {σ0 : zS} {σ : zS} {τ : zT} {Q : (zS × zT) → Prop} (hJ : JX σ0 σ) (hQ : ∀ r, JX σ0 r.1 → Q r) : zq (zf_Reader_readSpan σ τ) Q := by
  unfold zf_Reader_readSpan
  refine zq_bind (q_f_Weaver_isInSpan hJ fun r1 => ?_)
  refine zq_ite (fun c1 => ?_) fun c1 => ?_
  ·
    refine zq_ite (fun c2 => ?_) fun c2 => ?_
    ·
      refine zq_bind (q_f_Tokens_advance hJ fun r4 jr4 => ?_)
      refine zq_bind (q_f_Reader_openBlock jr4 fun r5 jr5 => ?_)
      exact hQ _ jr5
    ·
      refine zq_bind (q_f_Reader_failHere hJ fun r6 jr6 pr6 => ?_)
      exact hQ _ jr6
  ·
    refine zq_bind (q_f_Reader_failHere hJ fun r7 jr7 pr7 => ?_)
    exact hQ _ jr7

theorem q_f_Program_lengthOf {σ0 : zS} {σ : zS} {x1 : Int32} {Q : (Int32) → Prop} (hJ : JX σ0 σ) (hQ : ∀ r, Q r) : zq (zf_Program_lengthOf σ x1) Q := by
  unfold zf_Program_lengthOf
  refine zq_ite (fun c1 => ?_) fun c1 => ?_
  ·
    exact hQ _
  ·
    refine zq_ite (fun c2 => ?_) fun c2 => ?_
    ·
      exact hQ _
    ·
      refine zq_chk (by (first | with_reducible assumption | omega | grind)) fun c3 => ?_
      exact hQ _

theorem q_f_Weaver_hasRoom {σ0 : zS} {σ : zS} {Q : (Int32) → Prop} (hJ : JX σ0 σ) (hQ : ∀ r, Q r) : zq (zf_Weaver_hasRoom σ) Q := by
  unfold zf_Weaver_hasRoom
  refine zq_bind (q_f_Program_lengthOf hJ fun r1 => ?_)
  refine zq_ite (fun c1 => ?_) fun c1 => ?_
  ·
    exact hQ _
  ·
    exact hQ _

theorem q_f_Reader_hasRoomForStep {σ0 : zS} {σ : zS} {Q : (Int32 × zS) → Prop} (hJ : JX σ0 σ) (hQ : ∀ r, JX σ0 r.2 → (r.1 = 0 ∨ r.1 = 1) → Q r) : zq (zf_Reader_hasRoomForStep σ) Q := by
  unfold zf_Reader_hasRoomForStep
  refine zq_bind (q_f_Weaver_hasRoom hJ fun r1 => ?_)
  refine zq_ite (fun c1 => ?_) fun c1 => ?_
  ·
    show zq (zb_Reader_hasRoomForStep_18 σ) Q
    unfold zb_Reader_hasRoomForStep_18
    exact hQ _ hJ (by (first | with_reducible assumption | omega | grind))
  ·
    refine zq_bind (q_f_Reader_failHere hJ fun r3 jr3 pr3 => ?_)
    refine zq_ite (fun c2 => ?_) fun c2 => ?_
    ·
      exact hQ _ jr3 (by (first | with_reducible assumption | omega | grind))
    ·
      show zq (zb_Reader_hasRoomForStep_18 r3.2) Q
      unfold zb_Reader_hasRoomForStep_18
      exact hQ _ jr3 (by (first | with_reducible assumption | omega | grind))

theorem q_b_Weaver_closeOpen_2 {N : Nat} (hN : zBig ≤ N) {σ0 : zS} {v1 : Int32} {Q : (zS) → Prop} (hQ : ∀ r, JX σ0 r → Q r) : ∀ (n : Nat) (σ : zS) (v2 : Int32), JX σ0 σ → (0 ≤ v2) → zmu v2 < n → zq (zb_Weaver_closeOpen_2 N n σ v1 v2) Q := by
  intro n
  induction n with
  | zero => intro _ _ _ _ hn; exact absurd hn (Nat.not_lt_zero _)
  | succ n ih =>
    intro σ v2 hJ hI hn
    rw [zb_Weaver_closeOpen_2]
    refine zq_ite (fun c1 => ?_) fun c1 => ?_
    ·
      exact hQ _ (JX.up (by decide) (JX.up (by decide) hJ))
    ·
      refine zq_ite (fun c2 => ?_) fun c2 => ?_
      ·
        show zq (zb_Weaver_closeOpen_70 (zb_Weaver_closeOpen_2 N n) N σ v1 v2) Q
        unfold zb_Weaver_closeOpen_70
        exact ih σ (v2 + 1) hJ (by (first | with_reducible assumption | omega | grind)) (by first | exact zmu_up (by assumption) hn | exact zmu_up (b := 2147483647) (by (first | with_reducible assumption | omega | grind)) hn | (first | with_reducible assumption | omega | grind))
      ·
        refine zq_ite (fun c3 => ?_) fun c3 => ?_
        ·
          show zq (zb_Weaver_closeOpen_70 (zb_Weaver_closeOpen_2 N n) N σ v1 v2) Q
          unfold zb_Weaver_closeOpen_70
          exact ih σ (v2 + 1) hJ (by (first | with_reducible assumption | omega | grind)) (by first | exact zmu_up (by assumption) hn | exact zmu_up (b := 2147483647) (by (first | with_reducible assumption | omega | grind)) hn | (first | with_reducible assumption | omega | grind))
        ·
          refine zq_ite (fun c4 => ?_) fun c4 => ?_
          ·
            show zq (zb_Weaver_closeOpen_49 (zb_Weaver_closeOpen_2 N n) N σ v1 v2 (((σ 29 8) * 24) + v2)) Q
            unfold zb_Weaver_closeOpen_49
            refine zq_ite (fun c5 => ?_) fun c5 => ?_
            ·
              show zq (zb_Weaver_closeOpen_70 (zb_Weaver_closeOpen_2 N n) N σ v1 v2) Q
              unfold zb_Weaver_closeOpen_70
              exact ih σ (v2 + 1) hJ (by (first | with_reducible assumption | omega | grind)) (by first | exact zmu_up (by assumption) hn | exact zmu_up (b := 2147483647) (by (first | with_reducible assumption | omega | grind)) hn | (first | with_reducible assumption | omega | grind))
            ·
              refine zq_chk (by (first | with_reducible assumption | omega | grind)) fun c6 => ?_
              show zq (zb_Weaver_closeOpen_70 (zb_Weaver_closeOpen_2 N n) N (zx_up σ 10 (((σ 29 8) * 24) + v2).toNatClampNeg v1) v1 v2) Q
              unfold zb_Weaver_closeOpen_70
              exact ih (zx_up σ 10 (((σ 29 8) * 24) + v2).toNatClampNeg v1) (v2 + 1) (JX.up (by decide) hJ) (by (first | with_reducible assumption | omega | grind)) (by first | exact zmu_up (by assumption) hn | exact zmu_up (b := 2147483647) (by (first | with_reducible assumption | omega | grind)) hn | (first | with_reducible assumption | omega | grind))
          ·
            refine zq_chk (by (first | with_reducible assumption | omega | grind)) fun c7 => ?_
            show zq (zb_Weaver_closeOpen_49 (zb_Weaver_closeOpen_2 N n) N (zx_up σ 9 (((σ 29 8) * 24) + v2).toNatClampNeg v1) v1 v2 (((σ 29 8) * 24) + v2)) Q
            unfold zb_Weaver_closeOpen_49
            refine zq_ite (fun c8 => ?_) fun c8 => ?_
            ·
              show zq (zb_Weaver_closeOpen_70 (zb_Weaver_closeOpen_2 N n) N (zx_up σ 9 (((σ 29 8) * 24) + v2).toNatClampNeg v1) v1 v2) Q
              unfold zb_Weaver_closeOpen_70
              exact ih (zx_up σ 9 (((σ 29 8) * 24) + v2).toNatClampNeg v1) (v2 + 1) (JX.up (by decide) hJ) (by (first | with_reducible assumption | omega | grind)) (by first | exact zmu_up (by assumption) hn | exact zmu_up (b := 2147483647) (by (first | with_reducible assumption | omega | grind)) hn | (first | with_reducible assumption | omega | grind))
            ·
              refine zq_chk (by (first | with_reducible assumption | omega | grind)) fun c9 => ?_
              show zq (zb_Weaver_closeOpen_70 (zb_Weaver_closeOpen_2 N n) N (zx_up (zx_up σ 9 (((σ 29 8) * 24) + v2).toNatClampNeg v1) 10 (((σ 29 8) * 24) + v2).toNatClampNeg v1) v1 v2) Q
              unfold zb_Weaver_closeOpen_70
              exact ih (zx_up (zx_up σ 9 (((σ 29 8) * 24) + v2).toNatClampNeg v1) 10 (((σ 29 8) * 24) + v2).toNatClampNeg v1) (v2 + 1) (JX.up (by decide) (JX.up (by decide) hJ)) (by (first | with_reducible assumption | omega | grind)) (by first | exact zmu_up (by assumption) hn | exact zmu_up (b := 2147483647) (by (first | with_reducible assumption | omega | grind)) hn | (first | with_reducible assumption | omega | grind))

theorem q_f_Weaver_closeOpen {N : Nat} (hN : zBig ≤ N) {σ0 : zS} {σ : zS} {x1 : Int32} {Q : (zS) → Prop} (hJ : JX σ0 σ) (hQ : ∀ r, JX σ0 r → Q r) : zq (zf_Weaver_closeOpen N σ x1) Q := by
  unfold zf_Weaver_closeOpen
  exact q_b_Weaver_closeOpen_2 hN hQ N σ 0 hJ (by (first | with_reducible assumption | omega | grind)) (by exact zmu_lt hN _)

theorem q_f_Program_addStep {σ0 : zS} {σ : zS} {x1 : Int32} {x2 : Int32} {x3 : Int32} {x4 : Int32} {x5 : Int32} {Q : (Int32 × zS) → Prop} (hJ : JX σ0 σ) (hQ : ∀ r, JX σ0 r.2 → Q r) : zq (zf_Program_addStep σ x1 x2 x3 x4 x5) Q := by
  unfold zf_Program_addStep
  refine zq_ite (fun c1 => ?_) fun c1 => ?_
  ·
    exact hQ _ hJ
  ·
    refine zq_ite (fun c2 => ?_) fun c2 => ?_
    ·
      exact hQ _ hJ
    ·
      refine zq_chk (by (first | with_reducible assumption | omega | grind)) fun c3 => ?_
      refine zq_ite (fun c4 => ?_) fun c4 => ?_
      ·
        exact hQ _ hJ
      ·
        refine zq_chk (by (first | with_reducible assumption | omega | grind)) fun c5 => ?_
        refine zq_ite (fun c6 => ?_) fun c6 => ?_
        ·
          refine zq_chk (by (first | with_reducible assumption | omega | grind)) fun c7 => ?_
          refine zq_chk (by (first | with_reducible assumption | omega | grind)) fun c8 => ?_
          refine zq_chk (by (first | with_reducible assumption | omega | grind)) fun c9 => ?_
          refine zq_chk (by (first | with_reducible assumption | omega | grind)) fun c10 => ?_
          refine zq_chk (by (first | with_reducible assumption | omega | grind)) fun c11 => ?_
          refine zq_chk (by (first | with_reducible assumption | omega | grind)) fun c12 => ?_
          refine zq_chk (by (first | with_reducible assumption | omega | grind)) fun c13 => ?_
          refine zq_chk (by (first | with_reducible assumption | omega | grind)) fun c14 => ?_
          refine zq_chk (by (first | with_reducible assumption | omega | grind)) fun c15 => ?_
          exact hQ _ (JX.up (by decide) (JX.up (by decide) (JX.up (by decide) (JX.up (by decide) (JX.up (by decide) (JX.up (by decide) (JX.up (by decide) (JX.up (by decide) hJ))))))))
        ·
          exact hQ _ hJ

theorem q_f_Weaver_emit {N : Nat} (hN : zBig ≤ N) {σ0 : zS} {σ : zS} {x1 : Int32} {x2 : Int32} {Q : (zS) → Prop} (hJ : JX σ0 σ) (hQ : ∀ r, JX σ0 r → Q r) : zq (zf_Weaver_emit N σ x1 x2) Q := by
  unfold zf_Weaver_emit
  refine zq_bind (q_f_Program_lengthOf hJ fun r1 => ?_)
  refine zq_bind (q_f_Weaver_closeOpen hN hJ fun r2 jr2 => ?_)
  refine zq_bind (q_f_Program_addStep jr2 fun r3 jr3 => ?_)
  refine zq_ite (fun c1 => ?_) fun c1 => ?_
  ·
    show zq (zb_Weaver_emit_59 N (zx_up r3.2 29 7 r3.1) (zJ_shl 1 r3.1)) Q
    unfold zb_Weaver_emit_59
    exact hQ _ (JX.up (by decide) (JX.up (by decide) jr3))
  ·
    show zq (zb_Weaver_emit_59 N (zx_up r3.2 29 7 r3.1) 0) Q
    unfold zb_Weaver_emit_59
    exact hQ _ (JX.up (by decide) (JX.up (by decide) jr3))

theorem q_f_Reader_readStop {N : Nat} (hN : zBig ≤ N) {σ0 : zS} {σ : zS} {τ : zT} {Q : (zS × zT) → Prop} (hJ : JX σ0 σ) (hQ : ∀ r, JX σ0 r.1 → Q r) : zq (zf_Reader_readStop N σ τ) Q := by
  unfold zf_Reader_readStop
  refine zq_bind (q_f_Reader_hasRoomForStep hJ fun r1 jr1 pr1 => ?_)
  refine zq_ite (fun c1 => ?_) fun c1 => ?_
  ·
    exact hQ _ jr1
  ·
    refine zq_bind (q_f_Tokens_advance jr1 fun r3 jr3 => ?_)
    refine zq_bind (q_f_Weaver_emit hN jr3 fun r4 jr4 => ?_)
    refine zq_bind (q_f_Reader_expect jr4 fun r5 jr5 pr5 => ?_)
    exact hQ _ jr5

theorem q_b_Names_localOf_2 {N : Nat} (hN : zBig ≤ N) {σ0 : zS} {σ : zS} {τ : zT} {v1 : Int64} {Q : (Int32) → Prop} (hJ : JX σ0 σ) (hQ : ∀ r, Q r) : ∀ (n : Nat) (v3 : Int32), (0 ≤ v3) → zmu v3 < n → zq (zb_Names_localOf_2 N n σ τ v1 v3) Q := by
  intro n
  induction n with
  | zero => intro _ _ hn; exact absurd hn (Nat.not_lt_zero _)
  | succ n ih =>
    intro v3 hI hn
    rw [zb_Names_localOf_2]
    refine zq_ite (fun c1 => ?_) fun c1 => ?_
    ·
      exact hQ _
    ·
      refine zq_ite (fun c2 => ?_) fun c2 => ?_
      ·
        exact hQ _
      ·
        refine zq_chk (by (first | with_reducible assumption | omega | grind)) fun c3 => ?_
        refine zq_ite (fun c4 => ?_) fun c4 => ?_
        ·
          exact ih (v3 + 1) (by (first | with_reducible assumption | omega | grind)) (by first | exact zmu_up (by assumption) hn | exact zmu_up (b := 2147483647) (by (first | with_reducible assumption | omega | grind)) hn | (first | with_reducible assumption | omega | grind))
        ·
          exact hQ _

theorem q_f_Names_localOf {N : Nat} (hN : zBig ≤ N) {σ0 : zS} {σ : zS} {τ : zT} {x1 : Int64} {Q : (Int32) → Prop} (hJ : JX σ0 σ) (hQ : ∀ r, Q r) : zq (zf_Names_localOf N σ τ x1) Q := by
  unfold zf_Names_localOf
  exact q_b_Names_localOf_2 hN hJ hQ N 0 (by (first | with_reducible assumption | omega | grind)) (by exact zmu_lt hN _)

theorem q_f_Reader_failAtWrongToken {N : Nat} (hN : zBig ≤ N) {σ0 : zS} {σ : zS} {τ : zT} {Q : (zS) → Prop} (hJ : JX σ0 σ) (hQ : ∀ r, JX σ0 r → Q r) : zq (zf_Reader_failAtWrongToken N σ τ) Q := by
  unfold zf_Reader_failAtWrongToken
  refine zq_ite (fun c1 => ?_) fun c1 => ?_
  ·
    show zq (zb_Reader_failAtWrongToken_51 N σ τ) Q
    unfold zb_Reader_failAtWrongToken_51
    show zq (zb_Reader_failAtWrongToken_52 N σ τ 0) Q
    unfold zb_Reader_failAtWrongToken_52
    refine zq_ite (fun c2 => ?_) fun c2 => ?_
    ·
      show zq (zb_Reader_failAtWrongToken_63 N σ τ 2) Q
      unfold zb_Reader_failAtWrongToken_63
      refine zq_bind (q_f_Reader_failHere hJ fun r3 jr3 pr3 => ?_)
      exact hQ _ jr3
    ·
      show zq (zb_Reader_failAtWrongToken_63 N σ τ 3) Q
      unfold zb_Reader_failAtWrongToken_63
      refine zq_bind (q_f_Reader_failHere hJ fun r3 jr3 pr3 => ?_)
      exact hQ _ jr3
  ·
    refine zq_bind (q_f_Names_sortOf hN hJ fun r4 => ?_)
    refine zq_ite (fun c3 => ?_) fun c3 => ?_
    ·
      show zq (zb_Reader_failAtWrongToken_51 N σ τ) Q
      unfold zb_Reader_failAtWrongToken_51
      show zq (zb_Reader_failAtWrongToken_52 N σ τ 0) Q
      unfold zb_Reader_failAtWrongToken_52
      refine zq_ite (fun c4 => ?_) fun c4 => ?_
      ·
        show zq (zb_Reader_failAtWrongToken_63 N σ τ 2) Q
        unfold zb_Reader_failAtWrongToken_63
        refine zq_bind (q_f_Reader_failHere hJ fun r3 jr3 pr3 => ?_)
        exact hQ _ jr3
      ·
        show zq (zb_Reader_failAtWrongToken_63 N σ τ 3) Q
        unfold zb_Reader_failAtWrongToken_63
        refine zq_bind (q_f_Reader_failHere hJ fun r3 jr3 pr3 => ?_)
        exact hQ _ jr3
    ·
      refine zq_bind (q_f_Names_localOf hN hJ fun r6 => ?_)
      refine zq_ite (fun c5 => ?_) fun c5 => ?_
      ·
        show zq (zb_Reader_failAtWrongToken_51 N σ τ) Q
        unfold zb_Reader_failAtWrongToken_51
        show zq (zb_Reader_failAtWrongToken_52 N σ τ 0) Q
        unfold zb_Reader_failAtWrongToken_52
        refine zq_ite (fun c6 => ?_) fun c6 => ?_
        ·
          show zq (zb_Reader_failAtWrongToken_63 N σ τ 2) Q
          unfold zb_Reader_failAtWrongToken_63
          refine zq_bind (q_f_Reader_failHere hJ fun r3 jr3 pr3 => ?_)
          exact hQ _ jr3
        ·
          show zq (zb_Reader_failAtWrongToken_63 N σ τ 3) Q
          unfold zb_Reader_failAtWrongToken_63
          refine zq_bind (q_f_Reader_failHere hJ fun r3 jr3 pr3 => ?_)
          exact hQ _ jr3
      ·
        show zq (zb_Reader_failAtWrongToken_52 N σ τ 1) Q
        unfold zb_Reader_failAtWrongToken_52
        refine zq_ite (fun c7 => ?_) fun c7 => ?_
        ·
          show zq (zb_Reader_failAtWrongToken_63 N σ τ 2) Q
          unfold zb_Reader_failAtWrongToken_63
          refine zq_bind (q_f_Reader_failHere hJ fun r3 jr3 pr3 => ?_)
          exact hQ _ jr3
        ·
          show zq (zb_Reader_failAtWrongToken_63 N σ τ 3) Q
          unfold zb_Reader_failAtWrongToken_63
          refine zq_bind (q_f_Reader_failHere hJ fun r3 jr3 pr3 => ?_)
          exact hQ _ jr3

theorem q_b_Reader_takeTestValue_29 {N : Nat} (hN : zBig ≤ N) {σ0 : zS} {σ : zS} {τ : zT} {s0 : Int32} {Q : (Int32 × zS × zT) → Prop} (hJ : JX σ0 σ) (hQ : ∀ r, JX σ0 r.2.1 → Q r) : zq (zb_Reader_takeTestValue_29 N σ τ s0) Q := by
  unfold zb_Reader_takeTestValue_29
  refine zq_ite (fun c1 => ?_) fun c1 => ?_
  ·
    show zq (zb_Reader_takeTestValue_52 N σ τ s0) Q
    unfold zb_Reader_takeTestValue_52
    refine zq_ite (fun c2 => ?_) fun c2 => ?_
    ·
      show zq (zb_Reader_takeTestValue_72 N σ τ (8 + s0)) Q
      unfold zb_Reader_takeTestValue_72
      refine zq_bind (q_f_Tokens_advance hJ fun r4 jr4 => ?_)
      exact hQ _ jr4
    ·
      show zq (zb_Reader_takeTestValue_72 N σ τ ((τ 25 9) : Int64).toInt32) Q
      unfold zb_Reader_takeTestValue_72
      refine zq_bind (q_f_Tokens_advance hJ fun r4 jr4 => ?_)
      exact hQ _ jr4
  ·
    refine zq_ite (fun c3 => ?_) fun c3 => ?_
    ·
      show zq (zb_Reader_takeTestValue_52 N σ τ s0) Q
      unfold zb_Reader_takeTestValue_52
      refine zq_ite (fun c4 => ?_) fun c4 => ?_
      ·
        show zq (zb_Reader_takeTestValue_72 N σ τ (8 + s0)) Q
        unfold zb_Reader_takeTestValue_72
        refine zq_bind (q_f_Tokens_advance hJ fun r4 jr4 => ?_)
        exact hQ _ jr4
      ·
        show zq (zb_Reader_takeTestValue_72 N σ τ ((τ 25 9) : Int64).toInt32) Q
        unfold zb_Reader_takeTestValue_72
        refine zq_bind (q_f_Tokens_advance hJ fun r4 jr4 => ?_)
        exact hQ _ jr4
    ·
      refine zq_bind (q_f_Reader_failAtWrongToken hN hJ fun r6 jr6 => ?_)
      exact hQ _ jr6

theorem q_f_Reader_takeTestValue {N : Nat} (hN : zBig ≤ N) {σ0 : zS} {σ : zS} {τ : zT} {Q : (Int32 × zS × zT) → Prop} (hJ : JX σ0 σ) (hQ : ∀ r, JX σ0 r.2.1 → Q r) : zq (zf_Reader_takeTestValue N σ τ) Q := by
  unfold zf_Reader_takeTestValue
  refine zq_ite (fun c1 => ?_) fun c1 => ?_
  ·
    exact q_b_Reader_takeTestValue_29 hN hJ hQ
  ·
    refine zq_bind (q_f_Names_localOf hN hJ fun r7 => ?_)
    exact q_b_Reader_takeTestValue_29 hN hJ hQ

theorem q_f_Weaver_work {σ0 : zS} {σ : zS} {x1 : Int32} {x2 : Int32} {x3 : Int32} {x4 : Int32} {Q : (zS) → Prop} (hJ : JX σ0 σ) (hQ : ∀ r, JX σ0 r → Q r) : zq (zf_Weaver_work σ x1 x2 x3 x4) Q := by
  unfold zf_Weaver_work
  refine zq_bind (q_f_Program_slotOf hJ fun r1 pr1 => ?_)
  refine zq_chk (by (first | with_reducible assumption | omega | grind)) fun c1 => ?_
  refine zq_chk (by (first | with_reducible assumption | omega | grind)) fun c2 => ?_
  refine zq_chk (by (first | with_reducible assumption | omega | grind)) fun c3 => ?_
  refine zq_chk (by (first | with_reducible assumption | omega | grind)) fun c4 => ?_
  exact hQ _ (JX.up (by decide) (JX.up (by decide) (JX.up (by decide) (JX.up (by decide) hJ))))

theorem q_f_Reader_readTest {N : Nat} (hN : zBig ≤ N) {σ0 : zS} {σ : zS} {τ : zT} {x1 : Int32} {Q : (Int32 × zS × zT) → Prop} (hJ : JX σ0 σ) (hQ : ∀ r, JX σ0 r.2.1 → (r.1 = 0 ∨ r.1 = 1) → Q r) : zq (zf_Reader_readTest N σ τ x1) Q := by
  unfold zf_Reader_readTest
  refine zq_bind (q_f_Reader_takeTestValue hN hJ fun r1 jr1 => ?_)
  refine zq_ite (fun c1 => ?_) fun c1 => ?_
  ·
    refine zq_ite (fun c2 => ?_) fun c2 => ?_
    ·
      show zq (zb_Reader_readTest_52 N r1.2.1 r1.2.2 x1 r1.1 (r1.2.1 25 7)) Q
      unfold zb_Reader_readTest_52
      refine zq_bind (q_f_Tokens_advance jr1 fun r4 jr4 => ?_)
      refine zq_bind (q_f_Reader_takeTestValue hN jr4 fun r5 jr5 => ?_)
      refine zq_ite (fun c3 => ?_) fun c3 => ?_
      ·
        refine zq_bind (q_f_Weaver_emit hN jr5 fun r7 jr7 => ?_)
        refine zq_bind (q_f_Weaver_work jr7 fun r8 jr8 => ?_)
        exact hQ _ jr8 (by (first | with_reducible assumption | omega | grind))
      ·
        exact hQ _ jr5 (by (first | with_reducible assumption | omega | grind))
    ·
      refine zq_ite (fun c4 => ?_) fun c4 => ?_
      ·
        show zq (zb_Reader_readTest_52 N r1.2.1 r1.2.2 x1 r1.1 (r1.2.1 25 7)) Q
        unfold zb_Reader_readTest_52
        refine zq_bind (q_f_Tokens_advance jr1 fun r4 jr4 => ?_)
        refine zq_bind (q_f_Reader_takeTestValue hN jr4 fun r5 jr5 => ?_)
        refine zq_ite (fun c5 => ?_) fun c5 => ?_
        ·
          refine zq_bind (q_f_Weaver_emit hN jr5 fun r7 jr7 => ?_)
          refine zq_bind (q_f_Weaver_work jr7 fun r8 jr8 => ?_)
          exact hQ _ jr8 (by (first | with_reducible assumption | omega | grind))
        ·
          exact hQ _ jr5 (by (first | with_reducible assumption | omega | grind))
      ·
        refine zq_ite (fun c6 => ?_) fun c6 => ?_
        ·
          show zq (zb_Reader_readTest_52 N r1.2.1 r1.2.2 x1 r1.1 (r1.2.1 25 7)) Q
          unfold zb_Reader_readTest_52
          refine zq_bind (q_f_Tokens_advance jr1 fun r4 jr4 => ?_)
          refine zq_bind (q_f_Reader_takeTestValue hN jr4 fun r5 jr5 => ?_)
          refine zq_ite (fun c7 => ?_) fun c7 => ?_
          ·
            refine zq_bind (q_f_Weaver_emit hN jr5 fun r7 jr7 => ?_)
            refine zq_bind (q_f_Weaver_work jr7 fun r8 jr8 => ?_)
            exact hQ _ jr8 (by (first | with_reducible assumption | omega | grind))
          ·
            exact hQ _ jr5 (by (first | with_reducible assumption | omega | grind))
        ·
          refine zq_ite (fun c8 => ?_) fun c8 => ?_
          ·
            show zq (zb_Reader_readTest_52 N r1.2.1 r1.2.2 x1 r1.1 (r1.2.1 25 7)) Q
            unfold zb_Reader_readTest_52
            refine zq_bind (q_f_Tokens_advance jr1 fun r4 jr4 => ?_)
            refine zq_bind (q_f_Reader_takeTestValue hN jr4 fun r5 jr5 => ?_)
            refine zq_ite (fun c9 => ?_) fun c9 => ?_
            ·
              refine zq_bind (q_f_Weaver_emit hN jr5 fun r7 jr7 => ?_)
              refine zq_bind (q_f_Weaver_work jr7 fun r8 jr8 => ?_)
              exact hQ _ jr8 (by (first | with_reducible assumption | omega | grind))
            ·
              exact hQ _ jr5 (by (first | with_reducible assumption | omega | grind))
          ·
            refine zq_bind (q_f_Reader_failHere jr1 fun r12 jr12 pr12 => ?_)
            refine zq_chk (by (first | with_reducible assumption | omega | grind)) fun c10 => ?_
            exact hQ _ jr12 (by (first | with_reducible assumption | omega | grind))
  ·
    exact hQ _ jr1 (by (first | with_reducible assumption | omega | grind))

theorem q_f_Reader_readCheck {N : Nat} (hN : zBig ≤ N) {σ0 : zS} {σ : zS} {τ : zT} {Q : (zS × zT) → Prop} (hJ : JX σ0 σ) (hQ : ∀ r, JX σ0 r.1 → Q r) : zq (zf_Reader_readCheck N σ τ) Q := by
  unfold zf_Reader_readCheck
  refine zq_bind (q_f_Reader_hasRoomForStep hJ fun r1 jr1 pr1 => ?_)
  refine zq_ite (fun c1 => ?_) fun c1 => ?_
  ·
    exact hQ _ jr1
  ·
    refine zq_bind (q_f_Tokens_advance jr1 fun r3 jr3 => ?_)
    refine zq_bind (q_f_Reader_readTest hN jr3 fun r4 jr4 pr4 => ?_)
    refine zq_ite (fun c2 => ?_) fun c2 => ?_
    ·
      exact hQ _ jr4
    ·
      refine zq_bind (q_f_Reader_expect jr4 fun r6 jr6 pr6 => ?_)
      exact hQ _ jr6

theorem q_b_Reader_readThreadStep_44 {N : Nat} (hN : zBig ≤ N) {σ0 : zS} {σ : zS} {τ : zT} {v1 : Int32} {s0 : Int32} {Q : (zS × zT) → Prop} (hJ : JX σ0 σ) (hQ : ∀ r, JX σ0 r.1 → Q r) : zq (zb_Reader_readThreadStep_44 N σ τ v1 s0) Q := by
  unfold zb_Reader_readThreadStep_44
  refine zq_ite (fun c1 => ?_) fun c1 => ?_
  ·
    show zq (zb_Reader_readThreadStep_54 N σ τ) Q
    unfold zb_Reader_readThreadStep_54
    refine zq_bind (q_f_Reader_failHere hJ fun r6 jr6 pr6 => ?_)
    exact hQ _ jr6
  ·
    refine zq_ite (fun c2 => ?_) fun c2 => ?_
    ·
      refine zq_bind (q_f_Weaver_emit hN hJ fun r8 jr8 => ?_)
      refine zq_bind (q_f_Program_slotOf jr8 fun r9 pr9 => ?_)
      refine zq_ite (fun c3 => ?_) fun c3 => ?_
      ·
        show zq (zb_Reader_readThreadStep_126 N r8 τ) Q
        unfold zb_Reader_readThreadStep_126
        refine zq_bind (q_f_Tokens_advance jr8 fun r11 jr11 => ?_)
        refine zq_bind (q_f_Reader_expect jr11 fun r12 jr12 pr12 => ?_)
        exact hQ _ jr12
      ·
        refine zq_chk (by (first | with_reducible assumption | omega | grind)) fun c4 => ?_
        refine zq_chk (by (first | with_reducible assumption | omega | grind)) fun c5 => ?_
        show zq (zb_Reader_readThreadStep_126 N (zx_up r8 24 r9.toNatClampNeg (r8 25 8)) (zx_up τ 23 r9.toNatClampNeg (τ 25 9))) Q
        unfold zb_Reader_readThreadStep_126
        refine zq_bind (q_f_Tokens_advance (JX.up (by decide) jr8) fun r11 jr11 => ?_)
        refine zq_bind (q_f_Reader_expect jr11 fun r12 jr12 pr12 => ?_)
        exact hQ _ jr12
    ·
      show zq (zb_Reader_readThreadStep_54 N σ τ) Q
      unfold zb_Reader_readThreadStep_54
      refine zq_bind (q_f_Reader_failHere hJ fun r6 jr6 pr6 => ?_)
      exact hQ _ jr6

theorem q_f_Reader_readThreadStep {N : Nat} (hN : zBig ≤ N) {σ0 : zS} {σ : zS} {τ : zT} {x1 : Int32} {Q : (zS × zT) → Prop} (hJ : JX σ0 σ) (hQ : ∀ r, JX σ0 r.1 → Q r) : zq (zf_Reader_readThreadStep N σ τ x1) Q := by
  unfold zf_Reader_readThreadStep
  refine zq_bind (q_f_Reader_hasRoomForStep hJ fun r1 jr1 pr1 => ?_)
  refine zq_ite (fun c1 => ?_) fun c1 => ?_
  ·
    refine zq_bind (q_f_Tokens_advance jr1 fun r3 jr3 => ?_)
    refine zq_ite (fun c2 => ?_) fun c2 => ?_
    ·
      exact q_b_Reader_readThreadStep_44 hN jr3 hQ
    ·
      refine zq_bind (q_f_Names_sortOf hN jr3 fun r15 => ?_)
      exact q_b_Reader_readThreadStep_44 hN jr3 hQ
  ·
    exact hQ _ jr1

theorem q_f_Reader_takeLockName {N : Nat} (hN : zBig ≤ N) {σ0 : zS} {σ : zS} {τ : zT} {Q : (Int32 × zS × zT) → Prop} (hJ : JX σ0 σ) (hQ : ∀ r, JX σ0 r.2.1 → Q r) : zq (zf_Reader_takeLockName N σ τ) Q := by
  unfold zf_Reader_takeLockName
  refine zq_ite (fun c1 => ?_) fun c1 => ?_
  ·
    show zq (zb_Reader_takeLockName_30 N σ τ (-1)) Q
    unfold zb_Reader_takeLockName_30
    refine zq_ite (fun c2 => ?_) fun c2 => ?_
    ·
      refine zq_bind (q_f_Reader_failAtWrongToken hN hJ fun r3 jr3 => ?_)
      exact hQ _ jr3
    ·
      refine zq_bind (q_f_Tokens_advance hJ fun r4 jr4 => ?_)
      exact hQ _ jr4
  ·
    refine zq_bind (q_f_Names_numberOf hN hJ fun r5 => ?_)
    show zq (zb_Reader_takeLockName_30 N σ τ r5) Q
    unfold zb_Reader_takeLockName_30
    refine zq_ite (fun c3 => ?_) fun c3 => ?_
    ·
      refine zq_bind (q_f_Reader_failAtWrongToken hN hJ fun r3 jr3 => ?_)
      exact hQ _ jr3
    ·
      refine zq_bind (q_f_Tokens_advance hJ fun r4 jr4 => ?_)
      exact hQ _ jr4

theorem q_b_Reader_readSignal_51 {N : Nat} (hN : zBig ≤ N) {σ0 : zS} {σ : zS} {τ : zT} {v1 : Int32} {v2 : Int32} {Q : (zS × zT) → Prop} (hJ : JX σ0 σ) (hQ : ∀ r, JX σ0 r.1 → Q r) : zq (zb_Reader_readSignal_51 N σ τ v1 v2) Q := by
  unfold zb_Reader_readSignal_51
  refine zq_bind (q_f_Reader_takeLockName hN hJ fun r6 jr6 => ?_)
  refine zq_ite (fun c1 => ?_) fun c1 => ?_
  ·
    exact hQ _ jr6
  ·
    refine zq_ite (fun c2 => ?_) fun c2 => ?_
    ·
      show zq (zb_Reader_readSignal_75 N r6.2.1 r6.2.2 r6.1 v1) Q
      unfold zb_Reader_readSignal_75
      refine zq_bind (q_f_Weaver_emit hN jr6 fun r9 jr9 => ?_)
      refine zq_bind (q_f_Reader_expect jr9 fun r10 jr10 pr10 => ?_)
      exact hQ _ jr10
    ·
      show zq (zb_Reader_readSignal_75 N r6.2.1 r6.2.2 r6.1 9) Q
      unfold zb_Reader_readSignal_75
      refine zq_bind (q_f_Weaver_emit hN jr6 fun r9 jr9 => ?_)
      refine zq_bind (q_f_Reader_expect jr9 fun r10 jr10 pr10 => ?_)
      exact hQ _ jr10
theorem q_f_Reader_readSignal {N : Nat} (hN : zBig ≤ N) {σ0 : zS} {σ : zS} {τ : zT} {x1 : Int32} {Q : (zS × zT) → Prop} (hJ : JX σ0 σ) (hQ : ∀ r, JX σ0 r.1 → Q r) : zq (zf_Reader_readSignal N σ τ x1) Q := by
  unfold zf_Reader_readSignal
  refine zq_bind (q_f_Reader_hasRoomForStep hJ fun r1 jr1 pr1 => ?_)
  refine zq_ite (fun c1 => ?_) fun c1 => ?_
  ·
    refine zq_bind (q_f_Tokens_advance jr1 fun r3 jr3 => ?_)
    refine zq_ite (fun c2 => ?_) fun c2 => ?_
    ·
      show zq (zb_Reader_readSignal_38 N r3.1 r3.2 x1) Q
      unfold zb_Reader_readSignal_38
      show zq (zb_Reader_readSignal_39 N r3.1 r3.2 x1 0) Q
      unfold zb_Reader_readSignal_39
      refine zq_ite (fun c3 => ?_) fun c3 => ?_
      ·
        exact q_b_Reader_readSignal_51 hN jr3 hQ
      ·
        refine zq_bind (q_f_Tokens_advance jr3 fun r11 jr11 => ?_)
        exact q_b_Reader_readSignal_51 hN jr11 hQ
    ·
      refine zq_ite (fun c4 => ?_) fun c4 => ?_
      ·
        show zq (zb_Reader_readSignal_38 N r3.1 r3.2 x1) Q
        unfold zb_Reader_readSignal_38
        show zq (zb_Reader_readSignal_39 N r3.1 r3.2 x1 0) Q
        unfold zb_Reader_readSignal_39
        refine zq_ite (fun c5 => ?_) fun c5 => ?_
        ·
          exact q_b_Reader_readSignal_51 hN jr3 hQ
        ·
          refine zq_bind (q_f_Tokens_advance jr3 fun r11 jr11 => ?_)
          exact q_b_Reader_readSignal_51 hN jr11 hQ
      ·
        show zq (zb_Reader_readSignal_39 N r3.1 r3.2 x1 1) Q
        unfold zb_Reader_readSignal_39
        refine zq_ite (fun c6 => ?_) fun c6 => ?_
        ·
          exact q_b_Reader_readSignal_51 hN jr3 hQ
        ·
          refine zq_bind (q_f_Tokens_advance jr3 fun r11 jr11 => ?_)
          exact q_b_Reader_readSignal_51 hN jr11 hQ
  ·
    exact hQ _ jr1

theorem q_f_Reader_readBranch {N : Nat} (hN : zBig ≤ N) {σ0 : zS} {σ : zS} {τ : zT} {x1 : Int32} {x2 : Int32} {Q : (zS × zT) → Prop} (hJ : JX σ0 σ) (hQ : ∀ r, JX σ0 r.1 → Q r) : zq (zf_Reader_readBranch N σ τ x1 x2) Q := by
  unfold zf_Reader_readBranch
  refine zq_bind (q_f_Reader_hasRoomForStep hJ fun r1 jr1 pr1 => ?_)
  refine zq_ite (fun c1 => ?_) fun c1 => ?_
  ·
    exact hQ _ jr1
  ·
    refine zq_bind (q_f_Tokens_advance jr1 fun r3 jr3 => ?_)
    refine zq_bind (q_f_Reader_readTest hN jr3 fun r4 jr4 pr4 => ?_)
    refine zq_ite (fun c2 => ?_) fun c2 => ?_
    ·
      exact hQ _ jr4
    ·
      refine zq_bind (q_f_Reader_openBlock jr4 fun r6 jr6 => ?_)
      exact hQ _ jr6

theorem q_f_Reader_readLock {N : Nat} (hN : zBig ≤ N) {σ0 : zS} {σ : zS} {τ : zT} {Q : (zS × zT) → Prop} (hJ : JX σ0 σ) (hQ : ∀ r, JX σ0 r.1 → Q r) : zq (zf_Reader_readLock N σ τ) Q := by
  unfold zf_Reader_readLock
  refine zq_bind (q_f_Reader_hasRoomForStep hJ fun r1 jr1 pr1 => ?_)
  refine zq_ite (fun c1 => ?_) fun c1 => ?_
  ·
    exact hQ _ jr1
  ·
    refine zq_bind (q_f_Tokens_advance jr1 fun r3 jr3 => ?_)
    refine zq_bind (q_f_Reader_takeLockName hN jr3 fun r4 jr4 => ?_)
    refine zq_ite (fun c2 => ?_) fun c2 => ?_
    ·
      exact hQ _ jr4
    ·
      refine zq_bind (q_f_Weaver_emit hN jr4 fun r6 jr6 => ?_)
      refine zq_bind (q_f_Reader_openBlock jr6 fun r7 jr7 => ?_)
      exact hQ _ jr7

theorem q_f_Weaver_innermost {σ0 : zS} {σ : zS} {Q : (Int32) → Prop} (hJ : JX σ0 σ) (hQ : ∀ r, Q r) : zq (zf_Weaver_innermost σ) Q := by
  unfold zf_Weaver_innermost
  refine zq_ite (fun c1 => ?_) fun c1 => ?_
  ·
    exact hQ _
  ·
    refine zq_ite (fun c2 => ?_) fun c2 => ?_
    ·
      exact hQ _
    ·
      refine zq_chk (by (first | with_reducible assumption | omega | grind)) fun c3 => ?_
      exact hQ _

theorem q_b_Weaver_finishThread_19 {N : Nat} (hN : zBig ≤ N) {σ0 : zS} {v1 : Int32} {Q : (zS) → Prop} (hQ : ∀ r, JX σ0 r → Q r) : ∀ (n : Nat) (σ : zS) (v2 : Int32), JX σ0 σ → (0 ≤ v2) → zmu v2 < n → zq (zb_Weaver_finishThread_19 N n σ v1 v2) Q := by
  intro n
  induction n with
  | zero => intro _ _ _ _ hn; exact absurd hn (Nat.not_lt_zero _)
  | succ n ih =>
    intro σ v2 hJ hI hn
    rw [zb_Weaver_finishThread_19]
    refine zq_ite (fun c1 => ?_) fun c1 => ?_
    ·
      exact hQ _ hJ
    ·
      refine zq_ite (fun c2 => ?_) fun c2 => ?_
      ·
        exact hQ _ hJ
      ·
        refine zq_bind (q_f_Program_slotOf hJ fun r5 pr5 => ?_)
        refine zq_chk (by (first | with_reducible assumption | omega | grind)) fun c3 => ?_
        refine zq_ite (fun c4 => ?_) fun c4 => ?_
        ·
          show zq (zb_Weaver_finishThread_67 (zb_Weaver_finishThread_19 N n) N σ v1 v2) Q
          unfold zb_Weaver_finishThread_67
          exact ih σ (v2 + 1) hJ (by (first | with_reducible assumption | omega | grind)) (by first | exact zmu_up (by assumption) hn | exact zmu_up (b := 2147483647) (by (first | with_reducible assumption | omega | grind)) hn | (first | with_reducible assumption | omega | grind))
        ·
          refine zq_chk (by (first | with_reducible assumption | omega | grind)) fun c5 => ?_
          show zq (zb_Weaver_finishThread_67 (zb_Weaver_finishThread_19 N n) N (zx_up σ 9 r5.toNatClampNeg v1) v1 v2) Q
          unfold zb_Weaver_finishThread_67
          exact ih (zx_up σ 9 r5.toNatClampNeg v1) (v2 + 1) (JX.up (by decide) hJ) (by (first | with_reducible assumption | omega | grind)) (by first | exact zmu_up (by assumption) hn | exact zmu_up (b := 2147483647) (by (first | with_reducible assumption | omega | grind)) hn | (first | with_reducible assumption | omega | grind))

theorem q_f_Weaver_finishThread {N : Nat} (hN : zBig ≤ N) {σ0 : zS} {σ : zS} {Q : (zS) → Prop} (hJ : JX σ0 σ) (hQ : ∀ r, JX σ0 r → Q r) : zq (zf_Weaver_finishThread N σ) Q := by
  unfold zf_Weaver_finishThread
  refine zq_bind (q_f_Program_lengthOf hJ fun r1 => ?_)
  refine zq_bind (q_f_Weaver_closeOpen hN hJ fun r2 jr2 => ?_)
  exact q_b_Weaver_finishThread_19 hN hQ N r2 0 jr2 (by (first | with_reducible assumption | omega | grind)) (by exact zmu_lt hN _)

theorem q_f_Weaver_leave {N : Nat} (hN : zBig ≤ N) {σ0 : zS} {σ : zS} {Q : (zS) → Prop} (hJ : JX σ0 σ) (hQ : ∀ r, JX σ0 r → Q r) : zq (zf_Weaver_leave N σ) Q := by
  unfold zf_Weaver_leave
  refine zq_ite (fun c1 => ?_) fun c1 => ?_
  ·
    exact hQ _ hJ
  ·
    refine zq_ite (fun c2 => ?_) fun c2 => ?_
    ·
      refine zq_chk (by (first | with_reducible assumption | omega | grind)) fun c3 => ?_
      refine zq_chk (by (first | with_reducible assumption | omega | grind)) fun c4 => ?_
      refine zq_ite (fun c5 => ?_) fun c5 => ?_
      ·
        refine zq_bind (q_f_Weaver_finishThread hN hJ fun r15 jr15 => ?_)
        show zq (zb_Weaver_leave_166 N r15 ((σ 29 6) - 1)) Q
        unfold zb_Weaver_leave_166
        exact hQ _ (JX.up (by decide) jr15)
      ·
        refine zq_ite (fun c6 => ?_) fun c6 => ?_
        ·
          refine zq_bind (q_f_Weaver_emit hN hJ fun r13 jr13 => ?_)
          refine zq_chk (by (first | with_reducible assumption | omega | grind)) fun c7 => ?_
          show zq (zb_Weaver_leave_166 N (zx_up r13 29 11 (r13 34 ((σ 29 6) - 1).toNatClampNeg)) ((σ 29 6) - 1)) Q
          unfold zb_Weaver_leave_166
          exact hQ _ (JX.up (by decide) (JX.up (by decide) jr13))
        ·
          refine zq_ite (fun c8 => ?_) fun c8 => ?_
          ·
            show zq (zb_Weaver_leave_166 N (zx_up σ 29 12 (-1)) ((σ 29 6) - 1)) Q
            unfold zb_Weaver_leave_166
            exact hQ _ (JX.up (by decide) (JX.up (by decide) hJ))
          ·
            refine zq_ite (fun c9 => ?_) fun c9 => ?_
            ·
              show zq (zb_Weaver_leave_166 N (zx_up σ 29 10 ((σ 29 10) ||| (zJ_shl 1 (σ 31 ((σ 29 6) - 1).toNatClampNeg)))) ((σ 29 6) - 1)) Q
              unfold zb_Weaver_leave_166
              exact hQ _ (JX.up (by decide) (JX.up (by decide) hJ))
            ·
              refine zq_ite (fun c10 => ?_) fun c10 => ?_
              ·
                refine zq_chk (by (first | with_reducible assumption | omega | grind)) fun c11 => ?_
                refine zq_chk (by (first | with_reducible assumption | omega | grind)) fun c12 => ?_
                show zq (zb_Weaver_leave_166 N (zx_up (zx_up σ 29 9 ((σ 29 9) ||| (σ 32 ((σ 29 6) - 1).toNatClampNeg))) 29 10 ((σ 29 10) ||| (σ 33 ((σ 29 6) - 1).toNatClampNeg))) ((σ 29 6) - 1)) Q
                unfold zb_Weaver_leave_166
                exact hQ _ (JX.up (by decide) (JX.up (by decide) (JX.up (by decide) hJ)))
              ·
                refine zq_bind (q_f_Weaver_closeOpen hN hJ fun r10 jr10 => ?_)
                show zq (zb_Weaver_leave_166 N (zx_up r10 29 10 (zJ_shl 1 (σ 31 ((σ 29 6) - 1).toNatClampNeg))) ((σ 29 6) - 1)) Q
                unfold zb_Weaver_leave_166
                exact hQ _ (JX.up (by decide) (JX.up (by decide) jr10))
    ·
      exact hQ _ hJ

theorem q_f_Weaver_turnToElse {σ0 : zS} {σ : zS} {Q : (zS) → Prop} (hJ : JX σ0 σ) (hQ : ∀ r, JX σ0 r → Q r) : zq (zf_Weaver_turnToElse σ) Q := by
  unfold zf_Weaver_turnToElse
  refine zq_ite (fun c1 => ?_) fun c1 => ?_
  ·
    exact hQ _ hJ
  ·
    refine zq_ite (fun c2 => ?_) fun c2 => ?_
    ·
      exact hQ _ hJ
    ·
      refine zq_chk (by (first | with_reducible assumption | omega | grind)) fun c3 => ?_
      refine zq_chk (by (first | with_reducible assumption | omega | grind)) fun c4 => ?_
      refine zq_chk (by (first | with_reducible assumption | omega | grind)) fun c5 => ?_
      refine zq_chk (by (first | with_reducible assumption | omega | grind)) fun c6 => ?_
      exact hQ _ (JX.up (by decide) (JX.up (by decide) (JX.up (by decide) (JX.up (by decide) (JX.up (by decide) hJ)))))

theorem q_b_Reader_closeBlock_21 {N : Nat} (hN : zBig ≤ N) {σ0 : zS} {σ : zS} {τ : zT} {v1 : Int32} {Q : (zS × zT) → Prop} (hJ : JX σ0 σ) (hQ : ∀ r, JX σ0 r.1 → Q r) : zq (zb_Reader_closeBlock_21 N σ τ v1) Q := by
  unfold zb_Reader_closeBlock_21
  refine zq_bind (q_f_Tokens_advance hJ fun r3 jr3 => ?_)
  refine zq_ite (fun c1 => ?_) fun c1 => ?_
  ·
    show zq (zb_Reader_closeBlock_70 N r3.1 r3.2) Q
    unfold zb_Reader_closeBlock_70
    refine zq_bind (q_f_Weaver_leave hN jr3 fun r5 jr5 => ?_)
    exact hQ _ jr5
  ·
    refine zq_ite (fun c2 => ?_) fun c2 => ?_
    ·
      show zq (zb_Reader_closeBlock_70 N r3.1 r3.2) Q
      unfold zb_Reader_closeBlock_70
      refine zq_bind (q_f_Weaver_leave hN jr3 fun r5 jr5 => ?_)
      exact hQ _ jr5
    ·
      refine zq_bind (q_f_Tokens_advance jr3 fun r7 jr7 => ?_)
      refine zq_bind (q_f_Weaver_turnToElse jr7 fun r8 jr8 => ?_)
      refine zq_bind (q_f_Reader_expect jr8 fun r9 jr9 pr9 => ?_)
      exact hQ _ jr9

theorem q_f_Reader_closeBlock {N : Nat} (hN : zBig ≤ N) {σ0 : zS} {σ : zS} {τ : zT} {Q : (zS × zT) → Prop} (hJ : JX σ0 σ) (hQ : ∀ r, JX σ0 r.1 → Q r) : zq (zf_Reader_closeBlock N σ τ) Q := by
  unfold zf_Reader_closeBlock
  refine zq_bind (q_f_Weaver_innermost hJ fun r1 => ?_)
  refine zq_ite (fun c1 => ?_) fun c1 => ?_
  ·
    exact q_b_Reader_closeBlock_21 hN hJ hQ
  ·
    refine zq_bind (q_f_Reader_hasRoomForStep hJ fun r10 jr10 pr10 => ?_)
    refine zq_ite (fun c2 => ?_) fun c2 => ?_
    ·
      exact q_b_Reader_closeBlock_21 hN jr10 hQ
    ·
      exact hQ _ jr10

theorem q_f_Names_makeLocal {N : Nat} (hN : zBig ≤ N) {σ0 : zS} {σ : zS} {τ : zT} {x1 : Int64} {Q : (Int32 × zS × zT) → Prop} (hJ : JX σ0 σ) (hQ : ∀ r, JX σ0 r.2.1 → Q r) : zq (zf_Names_makeLocal N σ τ x1) Q := by
  unfold zf_Names_makeLocal
  refine zq_bind (q_f_Names_localOf hN hJ fun r1 => ?_)
  refine zq_ite (fun c1 => ?_) fun c1 => ?_
  ·
    exact hQ _ hJ
  ·
    refine zq_ite (fun c2 => ?_) fun c2 => ?_
    ·
      exact hQ _ hJ
    ·
      refine zq_ite (fun c3 => ?_) fun c3 => ?_
      ·
        refine zq_chk (by (first | with_reducible assumption | omega | grind)) fun c4 => ?_
        exact hQ _ (JX.up (by decide) hJ)
      ·
        exact hQ _ hJ

theorem q_b_Reader_takeSetValue_84 {N : Nat} (hN : zBig ≤ N) {σ0 : zS} {σ : zS} {τ : zT} {v1 : Int32} {s0 : Int32} {Q : (Int32 × zS × zT) → Prop} (hJ : JX σ0 σ) (hQ : ∀ r, JX σ0 r.2.1 → Q r) : zq (zb_Reader_takeSetValue_84 N σ τ v1 s0) Q := by
  unfold zb_Reader_takeSetValue_84
  refine zq_ite (fun c1 => ?_) fun c1 => ?_
  ·
    show zq (zb_Reader_takeSetValue_102 N σ τ v1 s0) Q
    unfold zb_Reader_takeSetValue_102
    refine zq_ite (fun c2 => ?_) fun c2 => ?_
    ·
      show zq (zb_Reader_takeSetValue_121 N σ τ ((τ 25 9) : Int64).toInt32) Q
      unfold zb_Reader_takeSetValue_121
      refine zq_bind (q_f_Tokens_advance hJ fun r7 jr7 => ?_)
      exact hQ _ jr7
    ·
      show zq (zb_Reader_takeSetValue_121 N σ τ (8 + s0)) Q
      unfold zb_Reader_takeSetValue_121
      refine zq_bind (q_f_Tokens_advance hJ fun r7 jr7 => ?_)
      exact hQ _ jr7
  ·
    refine zq_ite (fun c3 => ?_) fun c3 => ?_
    ·
      show zq (zb_Reader_takeSetValue_102 N σ τ v1 s0) Q
      unfold zb_Reader_takeSetValue_102
      refine zq_ite (fun c4 => ?_) fun c4 => ?_
      ·
        show zq (zb_Reader_takeSetValue_121 N σ τ ((τ 25 9) : Int64).toInt32) Q
        unfold zb_Reader_takeSetValue_121
        refine zq_bind (q_f_Tokens_advance hJ fun r7 jr7 => ?_)
        exact hQ _ jr7
      ·
        show zq (zb_Reader_takeSetValue_121 N σ τ (8 + s0)) Q
        unfold zb_Reader_takeSetValue_121
        refine zq_bind (q_f_Tokens_advance hJ fun r7 jr7 => ?_)
        exact hQ _ jr7
    ·
      refine zq_bind (q_f_Reader_failHere hJ fun r9 jr9 pr9 => ?_)
      exact hQ _ jr9

theorem q_b_Reader_takeSetValue_32 {N : Nat} (hN : zBig ≤ N) {σ0 : zS} {σ : zS} {τ : zT} {v1 : Int32} {Q : (Int32 × zS × zT) → Prop} (hJ : JX σ0 σ) (hQ : ∀ r, JX σ0 r.2.1 → Q r) : zq (zb_Reader_takeSetValue_32 N σ τ v1) Q := by
  unfold zb_Reader_takeSetValue_32
  refine zq_ite (fun c1 => ?_) fun c1 => ?_
  ·
    show zq (zb_Reader_takeSetValue_62 N σ τ v1) Q
    unfold zb_Reader_takeSetValue_62
    refine zq_ite (fun c2 => ?_) fun c2 => ?_
    ·
      exact q_b_Reader_takeSetValue_84 hN hJ hQ
    ·
      refine zq_bind (q_f_Names_makeLocal hN hJ fun r10 jr10 => ?_)
      exact q_b_Reader_takeSetValue_84 hN jr10 hQ
  ·
    refine zq_bind (q_f_Names_sortOf hN hJ fun r11 => ?_)
    refine zq_ite (fun c3 => ?_) fun c3 => ?_
    ·
      show zq (zb_Reader_takeSetValue_62 N σ τ v1) Q
      unfold zb_Reader_takeSetValue_62
      refine zq_ite (fun c4 => ?_) fun c4 => ?_
      ·
        exact q_b_Reader_takeSetValue_84 hN hJ hQ
      ·
        refine zq_bind (q_f_Names_makeLocal hN hJ fun r10 jr10 => ?_)
        exact q_b_Reader_takeSetValue_84 hN jr10 hQ
    ·
      show zq (zb_Reader_takeSetValue_54 N σ τ) Q
      unfold zb_Reader_takeSetValue_54
      refine zq_bind (q_f_Reader_failHere hJ fun r13 jr13 pr13 => ?_)
      exact hQ _ jr13

theorem q_f_Reader_takeSetValue {N : Nat} (hN : zBig ≤ N) {σ0 : zS} {σ : zS} {τ : zT} {Q : (Int32 × zS × zT) → Prop} (hJ : JX σ0 σ) (hQ : ∀ r, JX σ0 r.2.1 → Q r) : zq (zf_Reader_takeSetValue N σ τ) Q := by
  unfold zf_Reader_takeSetValue
  refine zq_ite (fun c1 => ?_) fun c1 => ?_
  ·
    show zq (zb_Reader_takeSetValue_16 N σ τ 0) Q
    unfold zb_Reader_takeSetValue_16
    refine zq_ite (fun c2 => ?_) fun c2 => ?_
    ·
      exact q_b_Reader_takeSetValue_32 hN hJ hQ
    ·
      refine zq_ite (fun c3 => ?_) fun c3 => ?_
      ·
        show zq (zb_Reader_takeSetValue_54 N σ τ) Q
        unfold zb_Reader_takeSetValue_54
        refine zq_bind (q_f_Reader_failHere hJ fun r13 jr13 pr13 => ?_)
        exact hQ _ jr13
      ·
        exact q_b_Reader_takeSetValue_32 hN hJ hQ
  ·
    show zq (zb_Reader_takeSetValue_16 N σ τ 1) Q
    unfold zb_Reader_takeSetValue_16
    refine zq_ite (fun c4 => ?_) fun c4 => ?_
    ·
      exact q_b_Reader_takeSetValue_32 hN hJ hQ
    ·
      refine zq_ite (fun c5 => ?_) fun c5 => ?_
      ·
        show zq (zb_Reader_takeSetValue_54 N σ τ) Q
        unfold zb_Reader_takeSetValue_54
        refine zq_bind (q_f_Reader_failHere hJ fun r13 jr13 pr13 => ?_)
        exact hQ _ jr13
      ·
        exact q_b_Reader_takeSetValue_32 hN hJ hQ

theorem q_f_Reader_readSum {N : Nat} (hN : zBig ≤ N) {σ0 : zS} {σ : zS} {τ : zT} {x1 : Int32} {Q : (zS × zT) → Prop} (hJ : JX σ0 σ) (hQ : ∀ r, JX σ0 r.1 → Q r) : zq (zf_Reader_readSum N σ τ x1) Q := by
  unfold zf_Reader_readSum
  refine zq_bind (q_f_Reader_takeSetValue hN hJ fun r1 jr1 => ?_)
  refine zq_ite (fun c1 => ?_) fun c1 => ?_
  ·
    refine zq_ite (fun c2 => ?_) fun c2 => ?_
    ·
      show zq (zb_Reader_readSum_40 N r1.2.1 r1.2.2 x1 r1.1) Q
      unfold zb_Reader_readSum_40
      refine zq_bind (q_f_Tokens_advance jr1 fun r4 jr4 => ?_)
      refine zq_bind (q_f_Reader_takeSetValue hN jr4 fun r5 jr5 => ?_)
      show zq (zb_Reader_readSum_61 N r5.2.1 r5.2.2 x1 r1.1 (r1.2.1 25 7) r5.1) Q
      unfold zb_Reader_readSum_61
      refine zq_ite (fun c3 => ?_) fun c3 => ?_
      ·
        exact hQ _ jr5
      ·
        refine zq_bind (q_f_Weaver_emit hN jr5 fun r7 jr7 => ?_)
        refine zq_bind (q_f_Weaver_work jr7 fun r8 jr8 => ?_)
        refine zq_bind (q_f_Reader_expect jr8 fun r9 jr9 pr9 => ?_)
        exact hQ _ jr9
    ·
      refine zq_ite (fun c4 => ?_) fun c4 => ?_
      ·
        show zq (zb_Reader_readSum_61 N r1.2.1 r1.2.2 x1 r1.1 (-1) 0) Q
        unfold zb_Reader_readSum_61
        refine zq_ite (fun c5 => ?_) fun c5 => ?_
        ·
          exact hQ _ jr1
        ·
          refine zq_bind (q_f_Weaver_emit hN jr1 fun r7 jr7 => ?_)
          refine zq_bind (q_f_Weaver_work jr7 fun r8 jr8 => ?_)
          refine zq_bind (q_f_Reader_expect jr8 fun r9 jr9 pr9 => ?_)
          exact hQ _ jr9
      ·
        show zq (zb_Reader_readSum_40 N r1.2.1 r1.2.2 x1 r1.1) Q
        unfold zb_Reader_readSum_40
        refine zq_bind (q_f_Tokens_advance jr1 fun r4 jr4 => ?_)
        refine zq_bind (q_f_Reader_takeSetValue hN jr4 fun r5 jr5 => ?_)
        show zq (zb_Reader_readSum_61 N r5.2.1 r5.2.2 x1 r1.1 (r1.2.1 25 7) r5.1) Q
        unfold zb_Reader_readSum_61
        refine zq_ite (fun c6 => ?_) fun c6 => ?_
        ·
          exact hQ _ jr5
        ·
          refine zq_bind (q_f_Weaver_emit hN jr5 fun r7 jr7 => ?_)
          refine zq_bind (q_f_Weaver_work jr7 fun r8 jr8 => ?_)
          refine zq_bind (q_f_Reader_expect jr8 fun r9 jr9 pr9 => ?_)
          exact hQ _ jr9
  ·
    exact hQ _ jr1

theorem q_f_Reader_readRead {N : Nat} (hN : zBig ≤ N) {σ0 : zS} {σ : zS} {τ : zT} {x1 : Int32} {x2 : Int32} {Q : (zS × zT) → Prop} (hJ : JX σ0 σ) (hQ : ∀ r, JX σ0 r.1 → Q r) : zq (zf_Reader_readRead N σ τ x1 x2) Q := by
  unfold zf_Reader_readRead
  refine zq_bind (q_f_Tokens_advance hJ fun r1 jr1 => ?_)
  refine zq_bind (q_f_Weaver_emit hN jr1 fun r2 jr2 => ?_)
  refine zq_bind (q_f_Weaver_work jr2 fun r3 jr3 => ?_)
  refine zq_bind (q_f_Reader_expect jr3 fun r4 jr4 pr4 => ?_)
  exact hQ _ jr4

theorem q_f_Reader_readWrite {N : Nat} (hN : zBig ≤ N) {σ0 : zS} {σ : zS} {τ : zT} {x1 : Int32} {Q : (zS × zT) → Prop} (hJ : JX σ0 σ) (hQ : ∀ r, JX σ0 r.1 → Q r) : zq (zf_Reader_readWrite N σ τ x1) Q := by
  unfold zf_Reader_readWrite
  refine zq_bind (q_f_Reader_takeSetValue hN hJ fun r1 jr1 => ?_)
  refine zq_ite (fun c1 => ?_) fun c1 => ?_
  ·
    exact hQ _ jr1
  ·
    refine zq_bind (q_f_Weaver_emit hN jr1 fun r3 jr3 => ?_)
    refine zq_bind (q_f_Weaver_work jr3 fun r4 jr4 => ?_)
    refine zq_bind (q_f_Reader_expect jr4 fun r5 jr5 pr5 => ?_)
    exact hQ _ jr5

theorem q_b_Reader_readSetting_78 {N : Nat} (hN : zBig ≤ N) {σ0 : zS} {σ : zS} {τ : zT} {v2 : Int32} {s0 : Int32} {Q : (zS × zT) → Prop} (hJ : JX σ0 σ) (hQ : ∀ r, JX σ0 r.1 → Q r) : zq (zb_Reader_readSetting_78 N σ τ v2 s0) Q := by
  unfold zb_Reader_readSetting_78
  refine zq_ite (fun c1 => ?_) fun c1 => ?_
  ·
    show zq (zb_Reader_readSetting_94 N σ τ) Q
    unfold zb_Reader_readSetting_94
    refine zq_bind (q_f_Reader_failHere hJ fun r9 jr9 pr9 => ?_)
    exact hQ _ jr9
  ·
    refine zq_bind (q_f_Weaver_hasRoom hJ fun r10 => ?_)
    refine zq_ite (fun c2 => ?_) fun c2 => ?_
    ·
      refine zq_bind (q_f_Tokens_advance hJ fun r12 jr12 => ?_)
      refine zq_bind (q_f_Reader_expect jr12 fun r13 jr13 pr13 => ?_)
      refine zq_ite (fun c3 => ?_) fun c3 => ?_
      ·
        refine zq_ite (fun c4 => ?_) fun c4 => ?_
        ·
          show zq (zb_Reader_readSetting_148 N r13.2.1 r13.2.2 v2 s0 (-1)) Q
          unfold zb_Reader_readSetting_148
          refine zq_ite (fun c5 => ?_) fun c5 => ?_
          ·
            refine zq_ite (fun c6 => ?_) fun c6 => ?_
            ·
              refine zq_bind (q_f_Reader_readSum hN jr13 fun r18 jr18 => ?_)
              exact hQ _ jr18
            ·
              refine zq_bind (q_f_Reader_readRead hN jr13 fun r19 jr19 => ?_)
              exact hQ _ jr19
          ·
            refine zq_bind (q_f_Reader_readWrite hN jr13 fun r20 jr20 => ?_)
            exact hQ _ jr20
        ·
          refine zq_bind (q_f_Names_numberOf hN jr13 fun r21 => ?_)
          show zq (zb_Reader_readSetting_148 N r13.2.1 r13.2.2 v2 s0 r21) Q
          unfold zb_Reader_readSetting_148
          refine zq_ite (fun c7 => ?_) fun c7 => ?_
          ·
            refine zq_ite (fun c8 => ?_) fun c8 => ?_
            ·
              refine zq_bind (q_f_Reader_readSum hN jr13 fun r18 jr18 => ?_)
              exact hQ _ jr18
            ·
              refine zq_bind (q_f_Reader_readRead hN jr13 fun r19 jr19 => ?_)
              exact hQ _ jr19
          ·
            refine zq_bind (q_f_Reader_readWrite hN jr13 fun r20 jr20 => ?_)
            exact hQ _ jr20
      ·
        exact hQ _ jr13
    ·
      show zq (zb_Reader_readSetting_94 N σ τ) Q
      unfold zb_Reader_readSetting_94
      refine zq_bind (q_f_Reader_failHere hJ fun r9 jr9 pr9 => ?_)
      exact hQ _ jr9

theorem q_f_Reader_readSetting {N : Nat} (hN : zBig ≤ N) {σ0 : zS} {σ : zS} {τ : zT} {Q : (zS × zT) → Prop} (hJ : JX σ0 σ) (hQ : ∀ r, JX σ0 r.1 → Q r) : zq (zf_Reader_readSetting N σ τ) Q := by
  unfold zf_Reader_readSetting
  refine zq_bind (q_f_Names_sortOf hN hJ fun r1 => ?_)
  refine zq_ite (fun c1 => ?_) fun c1 => ?_
  ·
    show zq (zb_Reader_readSetting_25 N σ τ) Q
    unfold zb_Reader_readSetting_25
    refine zq_bind (q_f_Reader_failHere hJ fun r3 jr3 pr3 => ?_)
    exact hQ _ jr3
  ·
    refine zq_ite (fun c2 => ?_) fun c2 => ?_
    ·
      refine zq_ite (fun c3 => ?_) fun c3 => ?_
      ·
        show zq (zb_Reader_readSetting_41 N σ τ r1 0) Q
        unfold zb_Reader_readSetting_41
        refine zq_ite (fun c4 => ?_) fun c4 => ?_
        ·
          refine zq_bind (q_f_Names_makeLocal hN hJ fun r7 jr7 => ?_)
          exact q_b_Reader_readSetting_78 hN jr7 hQ
        ·
          refine zq_bind (q_f_Names_numberOf hN hJ fun r22 => ?_)
          exact q_b_Reader_readSetting_78 hN hJ hQ
      ·
        show zq (zb_Reader_readSetting_41 N σ τ r1 1) Q
        unfold zb_Reader_readSetting_41
        refine zq_ite (fun c5 => ?_) fun c5 => ?_
        ·
          refine zq_bind (q_f_Names_makeLocal hN hJ fun r7 jr7 => ?_)
          exact q_b_Reader_readSetting_78 hN jr7 hQ
        ·
          refine zq_bind (q_f_Names_numberOf hN hJ fun r22 => ?_)
          exact q_b_Reader_readSetting_78 hN hJ hQ
    ·
      show zq (zb_Reader_readSetting_25 N σ τ) Q
      unfold zb_Reader_readSetting_25
      refine zq_bind (q_f_Reader_failHere hJ fun r3 jr3 pr3 => ?_)
      exact hQ _ jr3

theorem q_f_Reader_readStatement {N : Nat} (hN : zBig ≤ N) {σ0 : zS} {σ : zS} {τ : zT} {Q : (zS × zT) → Prop} (hJ : JX σ0 σ) (hQ : ∀ r, JX σ0 r.1 → Q r) : zq (zf_Reader_readStatement N σ τ) Q := by
  unfold zf_Reader_readStatement
  refine zq_ite (fun c1 => ?_) fun c1 => ?_
  ·
    refine zq_bind (q_f_Reader_readSetting hN hJ fun r25 jr25 => ?_)
    exact hQ _ jr25
  ·
    refine zq_ite (fun c2 => ?_) fun c2 => ?_
    ·
      refine zq_bind (q_f_Reader_closeBlock hN hJ fun r24 jr24 => ?_)
      exact hQ _ jr24
    ·
      refine zq_ite (fun c3 => ?_) fun c3 => ?_
      ·
        refine zq_bind (q_f_Reader_readLock hN hJ fun r23 jr23 => ?_)
        exact hQ _ jr23
      ·
        refine zq_ite (fun c4 => ?_) fun c4 => ?_
        ·
          refine zq_bind (q_f_Reader_readBranch hN hJ fun r22 jr22 => ?_)
          exact hQ _ jr22
        ·
          refine zq_ite (fun c5 => ?_) fun c5 => ?_
          ·
            refine zq_bind (q_f_Reader_readBranch hN hJ fun r21 jr21 => ?_)
            exact hQ _ jr21
          ·
            refine zq_ite (fun c6 => ?_) fun c6 => ?_
            ·
              refine zq_bind (q_f_Reader_readSignal hN hJ fun r20 jr20 => ?_)
              exact hQ _ jr20
            ·
              refine zq_ite (fun c7 => ?_) fun c7 => ?_
              ·
                refine zq_bind (q_f_Reader_readSignal hN hJ fun r19 jr19 => ?_)
                exact hQ _ jr19
              ·
                refine zq_ite (fun c8 => ?_) fun c8 => ?_
                ·
                  refine zq_bind (q_f_Reader_readThreadStep hN hJ fun r18 jr18 => ?_)
                  exact hQ _ jr18
                ·
                  refine zq_ite (fun c9 => ?_) fun c9 => ?_
                  ·
                    refine zq_bind (q_f_Reader_readThreadStep hN hJ fun r17 jr17 => ?_)
                    exact hQ _ jr17
                  ·
                    refine zq_ite (fun c10 => ?_) fun c10 => ?_
                    ·
                      refine zq_bind (q_f_Reader_readCheck hN hJ fun r16 jr16 => ?_)
                      exact hQ _ jr16
                    ·
                      refine zq_ite (fun c11 => ?_) fun c11 => ?_
                      ·
                        refine zq_bind (q_f_Reader_readStop hN hJ fun r15 jr15 => ?_)
                        exact hQ _ jr15
                      ·
                        refine zq_ite (fun c12 => ?_) fun c12 => ?_
                        ·
                          refine zq_bind (q_f_Reader_readSpan hJ fun r14 jr14 => ?_)
                          exact hQ _ jr14
                        ·
                          refine zq_bind (q_f_Reader_failHere hJ fun r13 jr13 pr13 => ?_)
                          exact hQ _ jr13

theorem q_b_Reader_readText_95 {N : Nat} (hN : zBig ≤ N) {σ0 : zS} {τ : zT} {Q : (zS × zT) → Prop} (hQ : ∀ r, JX σ0 r.1 → Q r) : ∀ (n : Nat) (σ : zS) (v2 : Int32), JX σ0 σ → (0 ≤ v2) → zmu v2 < n → zq (zb_Reader_readText_95 N n σ τ v2) Q := by
  intro n
  induction n with
  | zero => intro _ _ _ _ hn; exact absurd hn (Nat.not_lt_zero _)
  | succ n ih =>
    intro σ v2 hJ hI hn
    rw [zb_Reader_readText_95]
    refine zq_ite (fun c1 => ?_) fun c1 => ?_
    ·
      exact hQ _ hJ
    ·
      refine zq_ite (fun c2 => ?_) fun c2 => ?_
      ·
        exact hQ _ hJ
      ·
        refine zq_bind (q_f_Reader_findThread hN hJ fun r8 jr8 => ?_)
        exact ih r8 (v2 + 1) jr8 (by (first | with_reducible assumption | omega | grind)) (by first | exact zmu_up (by assumption) hn | exact zmu_up (b := 2147483647) (by (first | with_reducible assumption | omega | grind)) hn | (first | with_reducible assumption | omega | grind))

theorem q_b_Reader_readText_42 {N : Nat} (hN : zBig ≤ N) {σ0 : zS} {Q : (zS × zT) → Prop} (hQ : ∀ r, JX σ0 r.1 → Q r) : ∀ (n : Nat) (σ : zS) (τ : zT) (v2 : Int32), JX σ0 σ → (0 ≤ v2) → zmu v2 < n → zq (zb_Reader_readText_42 N n σ τ v2) Q := by
  intro n
  induction n with
  | zero => intro _ _ _ _ _ hn; exact absurd hn (Nat.not_lt_zero _)
  | succ n ih =>
    intro σ τ v2 hJ hI hn
    rw [zb_Reader_readText_42]
    refine zq_ite (fun c1 => ?_) fun c1 => ?_
    ·
      show zq (zb_Reader_readText_93 N σ τ) Q
      unfold zb_Reader_readText_93
      exact q_b_Reader_readText_95 hN hQ N σ 0 hJ (by (first | with_reducible assumption | omega | grind)) (by exact zmu_lt hN _)
    ·
      refine zq_ite (fun c2 => ?_) fun c2 => ?_
      ·
        show zq (zb_Reader_readText_93 N σ τ) Q
        unfold zb_Reader_readText_93
        exact q_b_Reader_readText_95 hN hQ N σ 0 hJ (by (first | with_reducible assumption | omega | grind)) (by exact zmu_lt hN _)
      ·
        refine zq_ite (fun c3 => ?_) fun c3 => ?_
        ·
          refine zq_ite (fun c4 => ?_) fun c4 => ?_
          ·
            show zq (zb_Reader_readText_93 N σ τ) Q
            unfold zb_Reader_readText_93
            exact q_b_Reader_readText_95 hN hQ N σ 0 hJ (by (first | with_reducible assumption | omega | grind)) (by exact zmu_lt hN _)
          ·
            refine zq_bind (q_f_Reader_readTelling hN hJ fun r12 jr12 => ?_)
            show zq (zb_Reader_readText_87 (zb_Reader_readText_42 N n) N r12.1 r12.2 v2) Q
            unfold zb_Reader_readText_87
            exact ih r12.1 r12.2 (v2 + 1) jr12 (by (first | with_reducible assumption | omega | grind)) (by first | exact zmu_up (by assumption) hn | exact zmu_up (b := 2147483647) (by (first | with_reducible assumption | omega | grind)) hn | (first | with_reducible assumption | omega | grind))
        ·
          refine zq_bind (q_f_Reader_readStatement hN hJ fun r13 jr13 => ?_)
          show zq (zb_Reader_readText_87 (zb_Reader_readText_42 N n) N r13.1 r13.2 v2) Q
          unfold zb_Reader_readText_87
          exact ih r13.1 r13.2 (v2 + 1) jr13 (by (first | with_reducible assumption | omega | grind)) (by first | exact zmu_up (by assumption) hn | exact zmu_up (b := 2147483647) (by (first | with_reducible assumption | omega | grind)) hn | (first | with_reducible assumption | omega | grind))

theorem q_f_Reader_readText {N : Nat} (hN : zBig ≤ N) {σ0 : zS} {σ : zS} {τ : zT} {x1 : Int32} {Q : (zS × zT) → Prop} (hJ : JX σ0 σ) (hQ : ∀ r, JX σ0 r.1 → Q r) : zq (zf_Reader_readText N σ τ x1) Q := by
  unfold zf_Reader_readText
  refine zq_bind (q_f_Program_clear hN (JX.up (by decide) (JX.up (by decide) hJ)) fun r1 jr1 => ?_)
  refine zq_bind (q_f_Names_clear jr1 fun r2 jr2 => ?_)
  refine zq_bind (q_f_Weaver_beginThread jr2 fun r3 jr3 => ?_)
  refine zq_bind (q_f_Tokens_scan hN jr3 fun r4 jr4 => ?_)
  exact q_b_Reader_readText_42 hN hQ N r4.1 r4.2 0 jr4 (by (first | with_reducible assumption | omega | grind)) (by exact zmu_lt hN _)

theorem q_f_Judge_forget {σ0 : zS} {σ : zS} {Q : (zS) → Prop} (hJ : JX σ0 σ) (hQ : ∀ r, JX σ0 r → Q r) : zq (zf_Judge_forget σ) Q := by
  unfold zf_Judge_forget
  exact hQ _ (JX.up (by decide) hJ)

theorem q_b_Arrays_fill_c2_5 {N : Nat} (hN : zBig ≤ N) {σ0 : zS} {v1 : Int32} {v3 : Int32} {Q : (zS) → Prop} (hQ : ∀ r, JX σ0 r → Q r) : ∀ (n : Nat) (σ : zS) (v2 : Int32), JX σ0 σ → (0 ≤ v2 ∧ v3 = 6) → zmu v2 < n → zq (zb_Arrays_fill_c2_5 N n σ v1 v2 v3) Q := by
  intro n
  induction n with
  | zero => intro _ _ _ _ hn; exact absurd hn (Nat.not_lt_zero _)
  | succ n ih =>
    intro σ v2 hJ hI hn
    rw [zb_Arrays_fill_c2_5]
    refine zq_ite (fun c1 => ?_) fun c1 => ?_
    ·
      exact hQ _ hJ
    ·
      refine zq_chk (by (first | with_reducible assumption | omega | grind)) fun c2 => ?_
      exact ih (zx_up σ 75 v2.toNatClampNeg v1) (v2 + 1) (JX.up (by decide) hJ) (by (first | with_reducible assumption | omega | grind)) (by first | exact zmu_up (by assumption) hn | exact zmu_up (b := 2147483647) (by (first | with_reducible assumption | omega | grind)) hn | (first | with_reducible assumption | omega | grind))

theorem q_f_Arrays_fill_c2 {N : Nat} (hN : zBig ≤ N) {σ0 : zS} {σ : zS} {x2 : Int32} {Q : (zS) → Prop} (hJ : JX σ0 σ) (hQ : ∀ r, JX σ0 r → Q r) : zq (zf_Arrays_fill_c2 N σ x2) Q := by
  unfold zf_Arrays_fill_c2
  exact q_b_Arrays_fill_c2_5 hN hQ N σ 0 hJ (by (first | with_reducible assumption | omega | grind)) (by exact zmu_lt hN _)

theorem q_f_X_read {N : Nat} (hN : zBig ≤ N) {σ0 : zS} {σ : zS} {τ : zT} {Q : (Int32 × zS × zT) → Prop} (hJ : JX σ0 σ) (hQ : ∀ r, JX (zx_up σ0 2 11 0) r.2.1 → Q r) : zq (zf_X_read N σ τ) Q := by
  unfold zf_X_read
  refine zq_bind (q_f_Reader_readText hN hJ fun r1 jr1 => ?_)
  refine zq_ite (fun c1 => ?_) fun c1 => ?_
  ·
    show zq (zb_X_read_40 N (zx_up (zx_up r1.1 2 11 0) 2 12 (r1.1 17 6)) r1.2 0) Q
    unfold zb_X_read_40
    refine zq_chk (by (first | with_reducible assumption | omega | grind)) fun c2 => ?_
    refine zq_bind (q_f_Judge_forget (JX.up2 (by decide) (JX.up2 (by decide) (JX.up2 (by decide) (JX.up2 (by decide) (JX.up2 (by decide) (JX.tp0 jr1)))))) fun r4 jr4 => ?_)
    refine zq_bind (q_f_Arrays_fill_c2 hN jr4 fun r5 jr5 => ?_)
    refine zq_ite (fun c3 => ?_) fun c3 => ?_
    ·
      exact hQ _ jr5
    ·
      exact hQ _ jr5
  ·
    show zq (zb_X_read_40 N (zx_up (zx_up r1.1 2 11 0) 2 12 (r1.1 17 6)) r1.2 1) Q
    unfold zb_X_read_40
    refine zq_chk (by (first | with_reducible assumption | omega | grind)) fun c4 => ?_
    refine zq_bind (q_f_Judge_forget (JX.up2 (by decide) (JX.up2 (by decide) (JX.up2 (by decide) (JX.up2 (by decide) (JX.up2 (by decide) (JX.tp0 jr1)))))) fun r4 jr4 => ?_)
    refine zq_bind (q_f_Arrays_fill_c2 hN jr4 fun r5 jr5 => ?_)
    refine zq_ite (fun c5 => ?_) fun c5 => ?_
    ·
      exact hQ _ jr5
    ·
      exact hQ _ jr5

theorem q_f_X_fault {σ0 : zS} {σ : zS} {Q : (Int32) → Prop} (hJ : JX σ0 σ) (hQ : ∀ r, Q r) : zq (zf_X_fault σ) Q := by
  unfold zf_X_fault
  exact hQ _

theorem q_f_X_count {σ0 : zS} {σ : zS} {x1 : Int32} {Q : (Int32) → Prop} (hJ : JX σ0 σ) (hQ : ∀ r, Q r) : zq (zf_X_count σ x1) Q := by
  unfold zf_X_count
  refine zq_ite (fun c1 => ?_) fun c1 => ?_
  ·
    refine zq_ite (fun c2 => ?_) fun c2 => ?_
    ·
      exact hQ _
    ·
      refine zq_ite (fun c3 => ?_) fun c3 => ?_
      ·
        exact hQ _
      ·
        refine zq_ite (fun c4 => ?_) fun c4 => ?_
        ·
          exact hQ _
        ·
          refine zq_ite (fun c5 => ?_) fun c5 => ?_
          ·
            exact hQ _
          ·
            refine zq_ite (fun c6 => ?_) fun c6 => ?_
            ·
              exact hQ _
            ·
              exact hQ _
  ·
    exact hQ _
theorem q_f_X_step {σ0 : zS} {σ : zS} {x1 : Int32} {x2 : Int32} {x3 : Int32} {Q : (Int32) → Prop} (hJ : JX σ0 σ) (hQ : ∀ r, Q r) : zq (zf_X_step σ x1 x2 x3) Q := by
  unfold zf_X_step
  refine zq_ite (fun c1 => ?_) fun c1 => ?_
  ·
    refine zq_bind (q_f_Program_slotOf hJ fun r2 pr2 => ?_)
    refine zq_ite (fun c2 => ?_) fun c2 => ?_
    ·
      refine zq_ite (fun c3 => ?_) fun c3 => ?_
      ·
        refine zq_chk (by (first | with_reducible assumption | omega | grind)) fun c4 => ?_
        exact hQ _
      ·
        refine zq_ite (fun c5 => ?_) fun c5 => ?_
        ·
          refine zq_chk (by (first | with_reducible assumption | omega | grind)) fun c6 => ?_
          exact hQ _
        ·
          refine zq_ite (fun c7 => ?_) fun c7 => ?_
          ·
            refine zq_chk (by (first | with_reducible assumption | omega | grind)) fun c8 => ?_
            exact hQ _
          ·
            refine zq_ite (fun c9 => ?_) fun c9 => ?_
            ·
              refine zq_chk (by (first | with_reducible assumption | omega | grind)) fun c10 => ?_
              exact hQ _
            ·
              refine zq_ite (fun c11 => ?_) fun c11 => ?_
              ·
                refine zq_chk (by (first | with_reducible assumption | omega | grind)) fun c12 => ?_
                exact hQ _
              ·
                refine zq_ite (fun c13 => ?_) fun c13 => ?_
                ·
                  refine zq_chk (by (first | with_reducible assumption | omega | grind)) fun c14 => ?_
                  exact hQ _
                ·
                  exact hQ _
    ·
      exact hQ _
  ·
    exact hQ _

theorem q_b_Arrays_fill_c3_5 {N : Nat} (hN : zBig ≤ N) {σ0 : zS} {v1 : Int32} {v3 : Int32} {Q : (zS) → Prop} (hQ : ∀ r, JX σ0 r → Q r) : ∀ (n : Nat) (σ : zS) (v2 : Int32), JX σ0 σ → (0 ≤ v2 ∧ v3 = 8192) → zmu v2 < n → zq (zb_Arrays_fill_c3_5 N n σ v1 v2 v3) Q := by
  intro n
  induction n with
  | zero => intro _ _ _ _ hn; exact absurd hn (Nat.not_lt_zero _)
  | succ n ih =>
    intro σ v2 hJ hI hn
    rw [zb_Arrays_fill_c3_5]
    refine zq_ite (fun c1 => ?_) fun c1 => ?_
    ·
      exact hQ _ hJ
    ·
      refine zq_chk (by (first | with_reducible assumption | omega | grind)) fun c2 => ?_
      exact ih (zx_up σ 45 v2.toNatClampNeg v1) (v2 + 1) (JX.up (by decide) hJ) (by (first | with_reducible assumption | omega | grind)) (by first | exact zmu_up (by assumption) hn | exact zmu_up (b := 2147483647) (by (first | with_reducible assumption | omega | grind)) hn | (first | with_reducible assumption | omega | grind))

theorem q_f_Arrays_fill_c3 {N : Nat} (hN : zBig ≤ N) {σ0 : zS} {σ : zS} {x2 : Int32} {Q : (zS) → Prop} (hJ : JX σ0 σ) (hQ : ∀ r, JX σ0 r → Q r) : zq (zf_Arrays_fill_c3 N σ x2) Q := by
  unfold zf_Arrays_fill_c3
  exact q_b_Arrays_fill_c3_5 hN hQ N σ 0 hJ (by (first | with_reducible assumption | omega | grind)) (by exact zmu_lt hN _)

theorem q_f_Program_startersOf {σ0 : zS} {σ : zS} {x1 : Int32} {Q : (Int32) → Prop} (hJ : JX σ0 σ) (hQ : ∀ r, Q r) : zq (zf_Program_startersOf σ x1) Q := by
  unfold zf_Program_startersOf
  refine zq_ite (fun c1 => ?_) fun c1 => ?_
  ·
    exact hQ _
  ·
    refine zq_ite (fun c2 => ?_) fun c2 => ?_
    ·
      exact hQ _
    ·
      refine zq_chk (by (first | with_reducible assumption | omega | grind)) fun c3 => ?_
      exact hQ _

theorem q_b_Machine_setFirst_15 {N : Nat} (hN : zBig ≤ N) {σ0 : zS} {Q : (zS) → Prop} (hQ : ∀ r, JX σ0 r → Q r) : ∀ (n : Nat) (σ : zS) (v1 : Int32), JX σ0 σ → (0 ≤ v1) → zmu v1 < n → zq (zb_Machine_setFirst_15 N n σ v1) Q := by
  intro n
  induction n with
  | zero => intro _ _ _ _ hn; exact absurd hn (Nat.not_lt_zero _)
  | succ n ih =>
    intro σ v1 hJ hI hn
    rw [zb_Machine_setFirst_15]
    refine zq_ite (fun c1 => ?_) fun c1 => ?_
    ·
      exact hQ _ hJ
    ·
      refine zq_bind (q_f_Program_lengthOf hJ fun r2 => ?_)
      refine zq_ite (fun c2 => ?_) fun c2 => ?_
      ·
        show zq (zb_Machine_setFirst_36 (zb_Machine_setFirst_15 N n) N σ v1 1) Q
        unfold zb_Machine_setFirst_36
        refine zq_bind (q_f_Program_startersOf hJ fun r4 => ?_)
        refine zq_ite (fun c3 => ?_) fun c3 => ?_
        ·
          show zq (zb_Machine_setFirst_50 (zb_Machine_setFirst_15 N n) N σ v1 1) Q
          unfold zb_Machine_setFirst_50
          refine zq_chk (by (first | with_reducible assumption | omega | grind)) fun c4 => ?_
          exact ih (zx_up σ 40 (v1 + 1).toNatClampNeg (zJ_shl 1 14)) (v1 + 1) (JX.up (by decide) hJ) (by (first | with_reducible assumption | omega | grind)) (by first | exact zmu_up (by assumption) hn | exact zmu_up (b := 2147483647) (by (first | with_reducible assumption | omega | grind)) hn | (first | with_reducible assumption | omega | grind))
        ·
          show zq (zb_Machine_setFirst_50 (zb_Machine_setFirst_15 N n) N σ v1 0) Q
          unfold zb_Machine_setFirst_50
          refine zq_chk (by (first | with_reducible assumption | omega | grind)) fun c5 => ?_
          exact ih (zx_up σ 40 (v1 + 1).toNatClampNeg (zJ_shl 0 14)) (v1 + 1) (JX.up (by decide) hJ) (by (first | with_reducible assumption | omega | grind)) (by first | exact zmu_up (by assumption) hn | exact zmu_up (b := 2147483647) (by (first | with_reducible assumption | omega | grind)) hn | (first | with_reducible assumption | omega | grind))
      ·
        show zq (zb_Machine_setFirst_36 (zb_Machine_setFirst_15 N n) N σ v1 4) Q
        unfold zb_Machine_setFirst_36
        refine zq_bind (q_f_Program_startersOf hJ fun r4 => ?_)
        refine zq_ite (fun c6 => ?_) fun c6 => ?_
        ·
          show zq (zb_Machine_setFirst_50 (zb_Machine_setFirst_15 N n) N σ v1 4) Q
          unfold zb_Machine_setFirst_50
          refine zq_chk (by (first | with_reducible assumption | omega | grind)) fun c7 => ?_
          exact ih (zx_up σ 40 (v1 + 1).toNatClampNeg (zJ_shl 4 14)) (v1 + 1) (JX.up (by decide) hJ) (by (first | with_reducible assumption | omega | grind)) (by first | exact zmu_up (by assumption) hn | exact zmu_up (b := 2147483647) (by (first | with_reducible assumption | omega | grind)) hn | (first | with_reducible assumption | omega | grind))
        ·
          show zq (zb_Machine_setFirst_50 (zb_Machine_setFirst_15 N n) N σ v1 0) Q
          unfold zb_Machine_setFirst_50
          refine zq_chk (by (first | with_reducible assumption | omega | grind)) fun c8 => ?_
          exact ih (zx_up σ 40 (v1 + 1).toNatClampNeg (zJ_shl 0 14)) (v1 + 1) (JX.up (by decide) hJ) (by (first | with_reducible assumption | omega | grind)) (by first | exact zmu_up (by assumption) hn | exact zmu_up (b := 2147483647) (by (first | with_reducible assumption | omega | grind)) hn | (first | with_reducible assumption | omega | grind))

theorem q_f_Machine_setFirst {N : Nat} (hN : zBig ≤ N) {σ0 : zS} {σ : zS} {Q : (zS) → Prop} (hJ : JX σ0 σ) (hQ : ∀ r, JX σ0 r → Q r) : zq (zf_Machine_setFirst N σ) Q := by
  unfold zf_Machine_setFirst
  exact q_b_Machine_setFirst_15 hN hQ N (zx_up σ 40 0 (σ 4 5)) 0 (JX.up (by decide) hJ) (by (first | with_reducible assumption | omega | grind)) (by exact zmu_lt hN _)

theorem q_f_Space_has {σ0 : zS} {σ : zS} {x1 : Int32} {Q : (Int32) → Prop} (hJ : JX σ0 σ) (hQ : ∀ r, (r = 0 ∨ (0 ≤ x1 ∧ x1 < 4000)) → Q r) : zq (zf_Space_has σ x1) Q := by
  unfold zf_Space_has
  refine zq_ite (fun c1 => ?_) fun c1 => ?_
  ·
    exact hQ _ (by (first | with_reducible assumption | omega | grind))
  ·
    refine zq_ite (fun c2 => ?_) fun c2 => ?_
    ·
      exact hQ _ (by (first | with_reducible assumption | omega | grind))
    ·
      refine zq_ite (fun c3 => ?_) fun c3 => ?_
      ·
        exact hQ _ (by (first | with_reducible assumption | omega | grind))
      ·
        exact hQ _ (by (first | with_reducible assumption | omega | grind))

theorem q_b_Space_isComing_2 {N : Nat} (hN : zBig ≤ N) {σ0 : zS} {σ : zS} {v1 : Int32} {Q : (Int32) → Prop} (hJ : JX σ0 σ) (hQ : ∀ r, Q r) : ∀ (n : Nat) (v2 : Int32), (0 ≤ v2) → zmu v2 < n → zq (zb_Space_isComing_2 N n σ v1 v2) Q := by
  intro n
  induction n with
  | zero => intro _ _ hn; exact absurd hn (Nat.not_lt_zero _)
  | succ n ih =>
    intro v2 hI hn
    rw [zb_Space_isComing_2]
    refine zq_ite (fun c1 => ?_) fun c1 => ?_
    ·
      exact hQ _
    ·
      refine zq_bind (q_f_Space_has hJ fun r2 pr2 => ?_)
      refine zq_ite (fun c2 => ?_) fun c2 => ?_
      ·
        exact hQ _
      ·
        refine zq_chk (by (first | with_reducible assumption | omega | grind)) fun c3 => ?_
        refine zq_chk (by (first | with_reducible assumption | omega | grind)) fun c4 => ?_
        refine zq_ite (fun c5 => ?_) fun c5 => ?_
        ·
          exact ih (v2 + 1) (by (first | with_reducible assumption | omega | grind)) (by first | exact zmu_up (by assumption) hn | exact zmu_up (b := 2147483647) (by (first | with_reducible assumption | omega | grind)) hn | (first | with_reducible assumption | omega | grind))
        ·
          exact hQ _

theorem q_f_Space_isComing {N : Nat} (hN : zBig ≤ N) {σ0 : zS} {σ : zS} {x1 : Int32} {Q : (Int32) → Prop} (hJ : JX σ0 σ) (hQ : ∀ r, Q r) : zq (zf_Space_isComing N σ x1) Q := by
  unfold zf_Space_isComing
  exact q_b_Space_isComing_2 hN hJ hQ N 0 (by (first | with_reducible assumption | omega | grind)) (by exact zmu_lt hN _)

theorem q_b_Space_slotOfComing_45 {N : Nat} (hN : zBig ≤ N) {σ0 : zS} {σ : zS} {Q : (Int32) → Prop} (hJ : JX σ0 σ) (hQ : ∀ r, (0 ≤ r ∧ r < 8192) → Q r) : ∀ (n : Nat) (v2 : Int32) (v3 : Int32), ((0 ≤ v2 ∧ v2 < 8192) ∧ 0 ≤ v3) → zmu v3 < n → zq (zb_Space_slotOfComing_45 N n σ v2 v3) Q := by
  intro n
  induction n with
  | zero => intro _ _ _ hn; exact absurd hn (Nat.not_lt_zero _)
  | succ n ih =>
    intro v2 v3 hI hn
    rw [zb_Space_slotOfComing_45]
    refine zq_ite (fun c1 => ?_) fun c1 => ?_
    ·
      exact hQ _ (by (first | with_reducible assumption | omega | grind))
    ·
      refine zq_chk (by (first | with_reducible assumption | omega | grind)) fun c2 => ?_
      refine zq_ite (fun c3 => ?_) fun c3 => ?_
      ·
        exact hQ _ (by (first | with_reducible assumption | omega | grind))
      ·
        refine zq_chk (by (first | with_reducible assumption | omega | grind)) fun c4 => ?_
        refine zq_bind (q_f_Space_isComing hN hJ fun r6 => ?_)
        refine zq_ite (fun c5 => ?_) fun c5 => ?_
        ·
          exact ih ((v2 + 1) &&& 8191) (v3 + 1) (by have := z_and (v2 + 1) 8191 (by decide); have := z_and (v2 + 1) 8191 (by decide); (first | with_reducible assumption | omega | grind)) (by first | exact zmu_up (by assumption) hn | exact zmu_up (b := 2147483647) (by (first | with_reducible assumption | omega | grind)) hn | (first | with_reducible assumption | omega | grind))
        ·
          exact hQ _ (by (first | with_reducible assumption | omega | grind))

theorem q_b_Space_slotOfComing_4 {N : Nat} (hN : zBig ≤ N) {σ0 : zS} {σ : zS} {Q : (Int32) → Prop} (hJ : JX σ0 σ) (hQ : ∀ r, (0 ≤ r ∧ r < 8192) → Q r) : ∀ (n : Nat) (v1 : Int32) (v2 : Int32), (0 ≤ v2) → zmu v2 < n → zq (zb_Space_slotOfComing_4 N n σ v1 v2) Q := by
  intro n
  induction n with
  | zero => intro _ _ _ hn; exact absurd hn (Nat.not_lt_zero _)
  | succ n ih =>
    intro v1 v2 hI hn
    rw [zb_Space_slotOfComing_4]
    refine zq_ite (fun c1 => ?_) fun c1 => ?_
    ·
      exact q_b_Space_slotOfComing_45 hN hJ hQ N (v1 &&& 8191) 0 (by have := z_and v1 8191 (by decide); have := z_and v1 8191 (by decide); (first | with_reducible assumption | omega | grind)) (by exact zmu_lt hN _)
    ·
      refine zq_chk (by (first | with_reducible assumption | omega | grind)) fun c2 => ?_
      exact ih (((v1 ^^^ (σ 40 v2.toNatClampNeg)) * (-1640531535)) ^^^ (zJ_ushr ((v1 ^^^ (σ 40 v2.toNatClampNeg)) * (-1640531535)) 15)) (v2 + 1) (by (first | with_reducible assumption | omega | grind)) (by first | exact zmu_up (by assumption) hn | exact zmu_up (b := 2147483647) (by (first | with_reducible assumption | omega | grind)) hn | (first | with_reducible assumption | omega | grind))

theorem q_f_Space_slotOfComing {N : Nat} (hN : zBig ≤ N) {σ0 : zS} {σ : zS} {Q : (Int32) → Prop} (hJ : JX σ0 σ) (hQ : ∀ r, (0 ≤ r ∧ r < 8192) → Q r) : zq (zf_Space_slotOfComing N σ) Q := by
  unfold zf_Space_slotOfComing
  exact q_b_Space_slotOfComing_4 hN hJ hQ N 0 0 (by (first | with_reducible assumption | omega | grind)) (by exact zmu_lt hN _)

theorem q_f_Space_note {N : Nat} (hN : zBig ≤ N) {σ0 : zS} {σ : zS} {x1 : Int32} {Q : (Int32 × zS) → Prop} (hJ : JX σ0 σ) (hQ : ∀ r, JX σ0 r.2 → (r.1 = 0 ∨ r.1 = 1) → Q r) : zq (zf_Space_note N σ x1) Q := by
  unfold zf_Space_note
  refine zq_bind (q_f_Space_slotOfComing hN hJ fun r1 pr1 => ?_)
  refine zq_chk (by (first | with_reducible assumption | omega | grind)) fun c1 => ?_
  refine zq_ite (fun c2 => ?_) fun c2 => ?_
  ·
    refine zq_ite (fun c3 => ?_) fun c3 => ?_
    ·
      exact hQ _ hJ (by (first | with_reducible assumption | omega | grind))
    ·
      refine zq_ite (fun c4 => ?_) fun c4 => ?_
      ·
        refine zq_chk (by (first | with_reducible assumption | omega | grind)) fun c5 => ?_
        refine zq_chk (by have := (show (zJ_copy σ 40 42 0 ((σ 41 6) * 5) 5) 41 6 = σ 41 6 from rfl); (first | with_reducible assumption | omega | grind)) fun c6 => ?_
        refine zq_chk (by (first | with_reducible assumption | omega | grind)) fun c7 => ?_
        exact hQ _ (JX.up (by decide) (JX.up (by decide) (JX.up (by decide) (JX.cp (by decide) hJ)))) (by (first | with_reducible assumption | omega | grind))
      ·
        exact hQ _ hJ (by (first | with_reducible assumption | omega | grind))
  ·
    exact hQ _ hJ (by (first | with_reducible assumption | omega | grind))

theorem q_b_Arrays_fill_c4_5 {N : Nat} (hN : zBig ≤ N) {σ0 : zS} {v1 : Int32} {v3 : Int32} {Q : (zS) → Prop} (hQ : ∀ r, JX σ0 r → Q r) : ∀ (n : Nat) (σ : zS) (v2 : Int32), JX σ0 σ → (0 ≤ v2 ∧ v3 = 4) → zmu v2 < n → zq (zb_Arrays_fill_c4_5 N n σ v1 v2 v3) Q := by
  intro n
  induction n with
  | zero => intro _ _ _ _ hn; exact absurd hn (Nat.not_lt_zero _)
  | succ n ih =>
    intro σ v2 hJ hI hn
    rw [zb_Arrays_fill_c4_5]
    refine zq_ite (fun c1 => ?_) fun c1 => ?_
    ·
      exact hQ _ hJ
    ·
      refine zq_chk (by (first | with_reducible assumption | omega | grind)) fun c2 => ?_
      exact ih (zx_up σ 38 v2.toNatClampNeg v1) (v2 + 1) (JX.up (by decide) hJ) (by (first | with_reducible assumption | omega | grind)) (by first | exact zmu_up (by assumption) hn | exact zmu_up (b := 2147483647) (by (first | with_reducible assumption | omega | grind)) hn | (first | with_reducible assumption | omega | grind))

theorem q_f_Arrays_fill_c4 {N : Nat} (hN : zBig ≤ N) {σ0 : zS} {σ : zS} {x2 : Int32} {Q : (zS) → Prop} (hJ : JX σ0 σ) (hQ : ∀ r, JX σ0 r → Q r) : zq (zf_Arrays_fill_c4 N σ x2) Q := by
  unfold zf_Arrays_fill_c4
  exact q_b_Arrays_fill_c4_5 hN hQ N σ 0 hJ (by (first | with_reducible assumption | omega | grind)) (by exact zmu_lt hN _)

theorem q_f_Machine_slotOf {σ0 : zS} {σ : zS} {x1 : Int32} {Q : (Int32) → Prop} (hJ : JX σ0 σ) (hQ : ∀ r, (0 ≤ r ∧ r ≤ 96) → Q r) : zq (zf_Machine_slotOf σ x1) Q := by
  unfold zf_Machine_slotOf
  refine zq_ite (fun c1 => ?_) fun c1 => ?_
  ·
    exact hQ _ (by (first | with_reducible assumption | omega | grind))
  ·
    refine zq_ite (fun c2 => ?_) fun c2 => ?_
    ·
      exact hQ _ (by (first | with_reducible assumption | omega | grind))
    ·
      refine zq_chk (by (first | with_reducible assumption | omega | grind)) fun c3 => ?_
      exact hQ _ (by have := (hJ).sl x1.toNatClampNeg; (first | with_reducible assumption | omega | grind))

theorem q_f_Machine_howOf {σ0 : zS} {σ : zS} {x1 : Int32} {Q : (Int32) → Prop} (hJ : JX σ0 σ) (hQ : ∀ r, Q r) : zq (zf_Machine_howOf σ x1) Q := by
  unfold zf_Machine_howOf
  refine zq_ite (fun c1 => ?_) fun c1 => ?_
  ·
    exact hQ _
  ·
    refine zq_ite (fun c2 => ?_) fun c2 => ?_
    ·
      exact hQ _
    ·
      refine zq_chk (by (first | with_reducible assumption | omega | grind)) fun c3 => ?_
      exact hQ _

theorem q_f_Machine_locksOf {σ0 : zS} {σ : zS} {x1 : Int32} {Q : (Int32) → Prop} (hJ : JX σ0 σ) (hQ : ∀ r, Q r) : zq (zf_Machine_locksOf σ x1) Q := by
  unfold zf_Machine_locksOf
  refine zq_bind (q_f_Machine_slotOf hJ fun r1 pr1 => ?_)
  refine zq_bind (q_f_Machine_howOf hJ fun r2 => ?_)
  refine zq_ite (fun c1 => ?_) fun c1 => ?_
  ·
    refine zq_chk (by (first | with_reducible assumption | omega | grind)) fun c2 => ?_
    exact hQ _
  ·
    refine zq_ite (fun c3 => ?_) fun c3 => ?_
    ·
      refine zq_chk (by (first | with_reducible assumption | omega | grind)) fun c4 => ?_
      refine zq_chk (by (first | with_reducible assumption | omega | grind)) fun c5 => ?_
      exact hQ _
    ·
      refine zq_ite (fun c6 => ?_) fun c6 => ?_
      ·
        refine zq_chk (by (first | with_reducible assumption | omega | grind)) fun c7 => ?_
        refine zq_chk (by (first | with_reducible assumption | omega | grind)) fun c8 => ?_
        exact hQ _
      ·
        exact hQ _

theorem q_b_Machine_load_95 {N : Nat} (hN : zBig ≤ N) {k34 : zS → Int32 → Option (zS)} {σ0 : zS} {v3 : Int32} {v5 : Int32} {Q : (zS) → Prop} (hk34_0 : ∀ (y0 : zS), JX σ0 y0 → zq (k34 y0 (v3 + 1)) Q) : ∀ (n : Nat) (σ : zS) (v6 : Int32), JX σ0 σ → (0 ≤ v6) → zmu v6 < n → zq (zb_Machine_load_95 k34 N n σ v3 v5 v6) Q := by
  intro n
  induction n with
  | zero => intro _ _ _ _ hn; exact absurd hn (Nat.not_lt_zero _)
  | succ n ih =>
    intro σ v6 hJ hI hn
    rw [zb_Machine_load_95]
    refine zq_ite (fun c1 => ?_) fun c1 => ?_
    ·
      show zq (zb_Machine_load_130 k34 N σ v3) Q
      unfold zb_Machine_load_130
      exact hk34_0 σ hJ
    ·
      refine zq_ite (fun c2 => ?_) fun c2 => ?_
      ·
        show zq (zb_Machine_load_130 k34 N σ v3) Q
        unfold zb_Machine_load_130
        exact hk34_0 σ hJ
      ·
        refine zq_ite (fun c3 => ?_) fun c3 => ?_
        ·
          show zq (zb_Machine_load_124 (zb_Machine_load_95 k34 N n) N σ v3 v5 v6) Q
          unfold zb_Machine_load_124
          exact ih σ (v6 + 1) hJ (by (first | with_reducible assumption | omega | grind)) (by first | exact zmu_up (by assumption) hn | exact zmu_up (b := 2147483647) (by (first | with_reducible assumption | omega | grind)) hn | (first | with_reducible assumption | omega | grind))
        ·
          refine zq_chk (by (first | with_reducible assumption | omega | grind)) fun c4 => ?_
          show zq (zb_Machine_load_124 (zb_Machine_load_95 k34 N n) N (zx_up σ 38 v6.toNatClampNeg v3) v3 v5 v6) Q
          unfold zb_Machine_load_124
          exact ih (zx_up σ 38 v6.toNatClampNeg v3) (v6 + 1) (JX.up (by decide) hJ) (by (first | with_reducible assumption | omega | grind)) (by first | exact zmu_up (by assumption) hn | exact zmu_up (b := 2147483647) (by (first | with_reducible assumption | omega | grind)) hn | (first | with_reducible assumption | omega | grind))

theorem q_b_Machine_load_34 {N : Nat} (hN : zBig ≤ N) {σ0 : zS} {Q : (zS) → Prop} (hQ : ∀ r, JX σ0 r → Q r) : ∀ (n : Nat) (σ : zS) (v3 : Int32), JX σ0 σ → (0 ≤ v3) → zmu v3 < n → zq (zb_Machine_load_34 N n σ v3) Q := by
  intro n
  induction n with
  | zero => intro _ _ _ _ hn; exact absurd hn (Nat.not_lt_zero _)
  | succ n ih =>
    intro σ v3 hJ hI hn
    rw [zb_Machine_load_34]
    refine zq_ite (fun c1 => ?_) fun c1 => ?_
    ·
      exact hQ _ hJ
    ·
      refine zq_chk (by (first | with_reducible assumption | omega | grind)) fun c2 => ?_
      refine zq_chk (by (first | with_reducible assumption | omega | grind)) fun c3 => ?_
      refine zq_bind (q_f_Program_slotOf (JX.up (by decide) hJ) fun r8 pr8 => ?_)
      refine zq_chk (by (first | with_reducible assumption | omega | grind)) fun c4 => ?_
      refine zq_bind (q_f_Machine_locksOf (JX.up37 (by (first | with_reducible assumption | omega | grind)) (JX.up (by decide) hJ)) fun r10 => ?_)
      exact q_b_Machine_load_95 hN (fun y0 jy => ih y0 (v3 + 1) jy (by (first | with_reducible assumption | omega | grind)) (by first | exact zmu_up (by assumption) hn | exact zmu_up (b := 2147483647) (by (first | with_reducible assumption | omega | grind)) hn | (first | with_reducible assumption | omega | grind))) N (zx_up (zx_up σ 36 v3.toNatClampNeg ((zJ_ushr (σ 39 (v3 + 1).toNatClampNeg) 14) &&& 7)) 37 v3.toNatClampNeg r8) 0 (JX.up37 (by (first | with_reducible assumption | omega | grind)) (JX.up (by decide) hJ)) (by (first | with_reducible assumption | omega | grind)) (by exact zmu_lt hN _)

theorem q_f_Machine_load {N : Nat} (hN : zBig ≤ N) {σ0 : zS} {σ : zS} {x2 : Int32} {Q : (zS) → Prop} (hJ : JX σ0 σ) (hP : 0 ≤ x2 ∧ x2 ≤ 19995) (hQ : ∀ r, JX σ0 r → Q r) : zq (zf_Machine_load N σ x2) Q := by
  unfold zf_Machine_load
  refine zq_ite (fun c1 => ?_) fun c1 => ?_
  ·
    exact hQ _ hJ
  ·
    refine zq_ite (fun c2 => ?_) fun c2 => ?_
    ·
      refine zq_chk (by (first | with_reducible assumption | omega | grind)) fun c3 => ?_
      refine zq_bind (q_f_Arrays_fill_c4 hN (JX.cp (by decide) hJ) fun r4 jr4 => ?_)
      exact q_b_Machine_load_34 hN hQ N r4 0 jr4 (by (first | with_reducible assumption | omega | grind)) (by exact zmu_lt hN _)
    ·
      exact hQ _ hJ

theorem q_f_Space_load {N : Nat} (hN : zBig ≤ N) {σ0 : zS} {σ : zS} {x1 : Int32} {Q : (zS) → Prop} (hJ : JX σ0 σ) (hQ : ∀ r, JX σ0 r → Q r) : zq (zf_Space_load N σ x1) Q := by
  unfold zf_Space_load
  refine zq_bind (q_f_Space_has hJ fun r1 pr1 => ?_)
  refine zq_ite (fun c1 => ?_) fun c1 => ?_
  ·
    exact hQ _ hJ
  ·
    refine zq_bind (q_f_Machine_load hN hJ (by (first | with_reducible assumption | omega | grind)) fun r3 jr3 => ?_)
    exact hQ _ jr3

theorem q_f_Machine_wordOf {σ0 : zS} {σ : zS} {x1 : Int32} {Q : (Int32) → Prop} (hJ : JX σ0 σ) (hQ : ∀ r, Q r) : zq (zf_Machine_wordOf σ x1) Q := by
  unfold zf_Machine_wordOf
  refine zq_ite (fun c1 => ?_) fun c1 => ?_
  ·
    exact hQ _
  ·
    refine zq_ite (fun c2 => ?_) fun c2 => ?_
    ·
      exact hQ _
    ·
      refine zq_chk (by (first | with_reducible assumption | omega | grind)) fun c3 => ?_
      exact hQ _

theorem q_f_Machine_ownerOf {σ0 : zS} {σ : zS} {x1 : Int32} {Q : (Int32) → Prop} (hJ : JX σ0 σ) (hQ : ∀ r, Q r) : zq (zf_Machine_ownerOf σ x1) Q := by
  unfold zf_Machine_ownerOf
  refine zq_ite (fun c1 => ?_) fun c1 => ?_
  ·
    exact hQ _
  ·
    refine zq_ite (fun c2 => ?_) fun c2 => ?_
    ·
      exact hQ _
    ·
      refine zq_chk (by (first | with_reducible assumption | omega | grind)) fun c3 => ?_
      exact hQ _

theorem q_f_Machine_canMove {σ0 : zS} {σ : zS} {x1 : Int32} {Q : (Int32) → Prop} (hJ : JX σ0 σ) (hQ : ∀ r, Q r) : zq (zf_Machine_canMove σ x1) Q := by
  unfold zf_Machine_canMove
  refine zq_bind (q_f_Machine_howOf hJ fun r1 => ?_)
  refine zq_bind (q_f_Machine_slotOf hJ fun r2 pr2 => ?_)
  refine zq_chk (by (first | with_reducible assumption | omega | grind)) fun c1 => ?_
  refine zq_ite (fun c2 => ?_) fun c2 => ?_
  ·
    refine zq_ite (fun c3 => ?_) fun c3 => ?_
    ·
      refine zq_chk (by (first | with_reducible assumption | omega | grind)) fun c4 => ?_
      refine zq_ite (fun c5 => ?_) fun c5 => ?_
      ·
        refine zq_bind (q_f_Machine_ownerOf hJ fun r13 => ?_)
        refine zq_ite (fun c6 => ?_) fun c6 => ?_
        ·
          show zq (zb_Machine_canMove_108 σ) Q
          unfold zb_Machine_canMove_108
          exact hQ _
        ·
          refine zq_bind (q_f_Machine_ownerOf hJ fun r15 => ?_)
          refine zq_ite (fun c7 => ?_) fun c7 => ?_
          ·
            exact hQ _
          ·
            show zq (zb_Machine_canMove_108 σ) Q
            unfold zb_Machine_canMove_108
            exact hQ _
      ·
        refine zq_ite (fun c8 => ?_) fun c8 => ?_
        ·
          refine zq_bind (q_f_Machine_howOf hJ fun r9 => ?_)
          refine zq_ite (fun c9 => ?_) fun c9 => ?_
          ·
            show zq (zb_Machine_canMove_134 σ) Q
            unfold zb_Machine_canMove_134
            exact hQ _
          ·
            refine zq_bind (q_f_Machine_howOf hJ fun r11 => ?_)
            refine zq_ite (fun c10 => ?_) fun c10 => ?_
            ·
              exact hQ _
            ·
              show zq (zb_Machine_canMove_134 σ) Q
              unfold zb_Machine_canMove_134
              exact hQ _
        ·
          exact hQ _
    ·
      exact hQ _
  ·
    refine zq_bind (q_f_Machine_ownerOf hJ fun r17 => ?_)
    refine zq_ite (fun c11 => ?_) fun c11 => ?_
    ·
      exact hQ _
    ·
      exact hQ _

theorem q_b_Machine_aloneIn_2 {N : Nat} (hN : zBig ≤ N) {σ0 : zS} {σ : zS} {v1 : Int32} {Q : (Int32) → Prop} (hJ : JX σ0 σ) (hQ : ∀ r, Q r) : ∀ (n : Nat) (v2 : Int32), (0 ≤ v2) → zmu v2 < n → zq (zb_Machine_aloneIn_2 N n σ v1 v2) Q := by
  intro n
  induction n with
  | zero => intro _ _ hn; exact absurd hn (Nat.not_lt_zero _)
  | succ n ih =>
    intro v2 hI hn
    rw [zb_Machine_aloneIn_2]
    refine zq_ite (fun c1 => ?_) fun c1 => ?_
    ·
      exact hQ _
    ·
      refine zq_ite (fun c2 => ?_) fun c2 => ?_
      ·
        exact hQ _
      ·
        refine zq_bind (q_f_Machine_wordOf hJ fun r3 => ?_)
        refine zq_ite (fun c3 => ?_) fun c3 => ?_
        ·
          show zq (zb_Machine_aloneIn_61 (zb_Machine_aloneIn_2 N n) N σ v1 v2) Q
          unfold zb_Machine_aloneIn_61
          show zq (zb_Machine_aloneIn_62 (zb_Machine_aloneIn_2 N n) N σ v1 v2 0) Q
          unfold zb_Machine_aloneIn_62
          refine zq_ite (fun c4 => ?_) fun c4 => ?_
          ·
            show zq (zb_Machine_aloneIn_77 (zb_Machine_aloneIn_2 N n) N σ v1 v2) Q
            unfold zb_Machine_aloneIn_77
            exact ih (v2 + 1) (by (first | with_reducible assumption | omega | grind)) (by first | exact zmu_up (by assumption) hn | exact zmu_up (b := 2147483647) (by (first | with_reducible assumption | omega | grind)) hn | (first | with_reducible assumption | omega | grind))
          ·
            refine zq_bind (q_f_Machine_canMove hJ fun r6 => ?_)
            refine zq_ite (fun c5 => ?_) fun c5 => ?_
            ·
              show zq (zb_Machine_aloneIn_77 (zb_Machine_aloneIn_2 N n) N σ v1 v2) Q
              unfold zb_Machine_aloneIn_77
              exact ih (v2 + 1) (by (first | with_reducible assumption | omega | grind)) (by first | exact zmu_up (by assumption) hn | exact zmu_up (b := 2147483647) (by (first | with_reducible assumption | omega | grind)) hn | (first | with_reducible assumption | omega | grind))
            ·
              exact hQ _
        ·
          refine zq_bind (q_f_Machine_howOf hJ fun r8 => ?_)
          refine zq_ite (fun c6 => ?_) fun c6 => ?_
          ·
            show zq (zb_Machine_aloneIn_61 (zb_Machine_aloneIn_2 N n) N σ v1 v2) Q
            unfold zb_Machine_aloneIn_61
            show zq (zb_Machine_aloneIn_62 (zb_Machine_aloneIn_2 N n) N σ v1 v2 0) Q
            unfold zb_Machine_aloneIn_62
            refine zq_ite (fun c7 => ?_) fun c7 => ?_
            ·
              show zq (zb_Machine_aloneIn_77 (zb_Machine_aloneIn_2 N n) N σ v1 v2) Q
              unfold zb_Machine_aloneIn_77
              exact ih (v2 + 1) (by (first | with_reducible assumption | omega | grind)) (by first | exact zmu_up (by assumption) hn | exact zmu_up (b := 2147483647) (by (first | with_reducible assumption | omega | grind)) hn | (first | with_reducible assumption | omega | grind))
            ·
              refine zq_bind (q_f_Machine_canMove hJ fun r6 => ?_)
              refine zq_ite (fun c8 => ?_) fun c8 => ?_
              ·
                show zq (zb_Machine_aloneIn_77 (zb_Machine_aloneIn_2 N n) N σ v1 v2) Q
                unfold zb_Machine_aloneIn_77
                exact ih (v2 + 1) (by (first | with_reducible assumption | omega | grind)) (by first | exact zmu_up (by assumption) hn | exact zmu_up (b := 2147483647) (by (first | with_reducible assumption | omega | grind)) hn | (first | with_reducible assumption | omega | grind))
              ·
                exact hQ _
          ·
            refine zq_bind (q_f_Machine_slotOf hJ fun r10 pr10 => ?_)
            refine zq_chk (by (first | with_reducible assumption | omega | grind)) fun c9 => ?_
            refine zq_ite (fun c10 => ?_) fun c10 => ?_
            ·
              show zq (zb_Machine_aloneIn_61 (zb_Machine_aloneIn_2 N n) N σ v1 v2) Q
              unfold zb_Machine_aloneIn_61
              show zq (zb_Machine_aloneIn_62 (zb_Machine_aloneIn_2 N n) N σ v1 v2 0) Q
              unfold zb_Machine_aloneIn_62
              refine zq_ite (fun c11 => ?_) fun c11 => ?_
              ·
                show zq (zb_Machine_aloneIn_77 (zb_Machine_aloneIn_2 N n) N σ v1 v2) Q
                unfold zb_Machine_aloneIn_77
                exact ih (v2 + 1) (by (first | with_reducible assumption | omega | grind)) (by first | exact zmu_up (by assumption) hn | exact zmu_up (b := 2147483647) (by (first | with_reducible assumption | omega | grind)) hn | (first | with_reducible assumption | omega | grind))
              ·
                refine zq_bind (q_f_Machine_canMove hJ fun r6 => ?_)
                refine zq_ite (fun c12 => ?_) fun c12 => ?_
                ·
                  show zq (zb_Machine_aloneIn_77 (zb_Machine_aloneIn_2 N n) N σ v1 v2) Q
                  unfold zb_Machine_aloneIn_77
                  exact ih (v2 + 1) (by (first | with_reducible assumption | omega | grind)) (by first | exact zmu_up (by assumption) hn | exact zmu_up (b := 2147483647) (by (first | with_reducible assumption | omega | grind)) hn | (first | with_reducible assumption | omega | grind))
                ·
                  exact hQ _
            ·
              show zq (zb_Machine_aloneIn_62 (zb_Machine_aloneIn_2 N n) N σ v1 v2 1) Q
              unfold zb_Machine_aloneIn_62
              refine zq_ite (fun c13 => ?_) fun c13 => ?_
              ·
                show zq (zb_Machine_aloneIn_77 (zb_Machine_aloneIn_2 N n) N σ v1 v2) Q
                unfold zb_Machine_aloneIn_77
                exact ih (v2 + 1) (by (first | with_reducible assumption | omega | grind)) (by first | exact zmu_up (by assumption) hn | exact zmu_up (b := 2147483647) (by (first | with_reducible assumption | omega | grind)) hn | (first | with_reducible assumption | omega | grind))
              ·
                refine zq_bind (q_f_Machine_canMove hJ fun r6 => ?_)
                refine zq_ite (fun c14 => ?_) fun c14 => ?_
                ·
                  show zq (zb_Machine_aloneIn_77 (zb_Machine_aloneIn_2 N n) N σ v1 v2) Q
                  unfold zb_Machine_aloneIn_77
                  exact ih (v2 + 1) (by (first | with_reducible assumption | omega | grind)) (by first | exact zmu_up (by assumption) hn | exact zmu_up (b := 2147483647) (by (first | with_reducible assumption | omega | grind)) hn | (first | with_reducible assumption | omega | grind))
                ·
                  exact hQ _

theorem q_f_Machine_aloneIn {N : Nat} (hN : zBig ≤ N) {σ0 : zS} {σ : zS} {x1 : Int32} {Q : (Int32) → Prop} (hJ : JX σ0 σ) (hQ : ∀ r, Q r) : zq (zf_Machine_aloneIn N σ x1) Q := by
  unfold zf_Machine_aloneIn
  exact q_b_Machine_aloneIn_2 hN hJ hQ N 0 (by (first | with_reducible assumption | omega | grind)) (by exact zmu_lt hN _)

theorem q_b_Machine_place_15 {σ0 : zS} {σ : zS} {v1 : Int32} {v2 : Int32} {v3 : Int32} {s0 : Int32} {Q : (zS) → Prop} (hJ : JX σ0 σ) (hQ : ∀ r, JX σ0 r → Q r) : zq (zb_Machine_place_15 σ v1 v2 v3 s0) Q := by
  unfold zb_Machine_place_15
  refine zq_ite (fun c1 => ?_) fun c1 => ?_
  ·
    show zq (zb_Machine_place_30 σ v1 v2 v3 131583) Q
    unfold zb_Machine_place_30
    refine zq_ite (fun c2 => ?_) fun c2 => ?_
    ·
      exact hQ _ hJ
    ·
      refine zq_ite (fun c3 => ?_) fun c3 => ?_
      ·
        exact hQ _ hJ
      ·
        refine zq_chk (by (first | with_reducible assumption | omega | grind)) fun c4 => ?_
        refine zq_chk (by (first | with_reducible assumption | omega | grind)) fun c5 => ?_
        exact hQ _ (JX.up (by decide) hJ)
  ·
    show zq (zb_Machine_place_30 σ v1 v2 v3 511) Q
    unfold zb_Machine_place_30
    refine zq_ite (fun c6 => ?_) fun c6 => ?_
    ·
      exact hQ _ hJ
    ·
      refine zq_ite (fun c7 => ?_) fun c7 => ?_
      ·
        exact hQ _ hJ
      ·
        refine zq_chk (by (first | with_reducible assumption | omega | grind)) fun c8 => ?_
        refine zq_chk (by (first | with_reducible assumption | omega | grind)) fun c9 => ?_
        exact hQ _ (JX.up (by decide) hJ)

theorem q_f_Machine_place {σ0 : zS} {σ : zS} {x1 : Int32} {x2 : Int32} {x3 : Int32} {Q : (zS) → Prop} (hJ : JX σ0 σ) (hQ : ∀ r, JX σ0 r → Q r) : zq (zf_Machine_place σ x1 x2 x3) Q := by
  unfold zf_Machine_place
  refine zq_ite (fun c1 => ?_) fun c1 => ?_
  ·
    show zq (zb_Machine_place_10 σ x1 x2 x3) Q
    unfold zb_Machine_place_10
    exact q_b_Machine_place_15 hJ hQ
  ·
    refine zq_ite (fun c2 => ?_) fun c2 => ?_
    ·
      exact q_b_Machine_place_15 hJ hQ
    ·
      show zq (zb_Machine_place_10 σ x1 x2 x3) Q
      unfold zb_Machine_place_10
      exact q_b_Machine_place_15 hJ hQ

theorem q_b_Machine_goTo_21 {σ0 : zS} {σ : zS} {v1 : Int32} {v2 : Int32} {s0 : Int32} {Q : (zS) → Prop} (hJ : JX σ0 σ) (hQ : ∀ r, JX σ0 r → Q r) : zq (zb_Machine_goTo_21 σ v1 v2 s0) Q := by
  unfold zb_Machine_goTo_21
  refine zq_ite (fun c1 => ?_) fun c1 => ?_
  ·
    show zq (zb_Machine_goTo_40 σ s0 v2 v1) Q
    unfold zb_Machine_goTo_40
    refine zq_ite (fun c2 => ?_) fun c2 => ?_
    ·
      show zq (zb_Machine_goTo_49 σ 1 v2 v1) Q
      unfold zb_Machine_goTo_49
      refine zq_bind (q_f_Machine_place hJ fun r4 jr4 => ?_)
      exact hQ _ jr4
    ·
      show zq (zb_Machine_goTo_49 σ 4 v2 v1) Q
      unfold zb_Machine_goTo_49
      refine zq_bind (q_f_Machine_place hJ fun r4 jr4 => ?_)
      exact hQ _ jr4
  ·
    refine zq_bind (q_f_Program_lengthOf hJ fun r5 => ?_)
    show zq (zb_Machine_goTo_40 σ s0 r5 v1) Q
    unfold zb_Machine_goTo_40
    refine zq_ite (fun c3 => ?_) fun c3 => ?_
    ·
      show zq (zb_Machine_goTo_49 σ 1 r5 v1) Q
      unfold zb_Machine_goTo_49
      refine zq_bind (q_f_Machine_place hJ fun r4 jr4 => ?_)
      exact hQ _ jr4
    ·
      show zq (zb_Machine_goTo_49 σ 4 r5 v1) Q
      unfold zb_Machine_goTo_49
      refine zq_bind (q_f_Machine_place hJ fun r4 jr4 => ?_)
      exact hQ _ jr4

theorem q_f_Machine_goTo {σ0 : zS} {σ : zS} {x1 : Int32} {x2 : Int32} {Q : (zS) → Prop} (hJ : JX σ0 σ) (hQ : ∀ r, JX σ0 r → Q r) : zq (zf_Machine_goTo σ x1 x2) Q := by
  unfold zf_Machine_goTo
  refine zq_ite (fun c1 => ?_) fun c1 => ?_
  ·
    show zq (zb_Machine_goTo_16 σ x1 x2) Q
    unfold zb_Machine_goTo_16
    exact q_b_Machine_goTo_21 hJ hQ
  ·
    refine zq_bind (q_f_Program_lengthOf hJ fun r6 => ?_)
    refine zq_ite (fun c2 => ?_) fun c2 => ?_
    ·
      exact q_b_Machine_goTo_21 hJ hQ
    ·
      show zq (zb_Machine_goTo_16 σ x1 x2) Q
      unfold zb_Machine_goTo_16
      exact q_b_Machine_goTo_21 hJ hQ

theorem q_f_Machine_stepOf {σ0 : zS} {σ : zS} {x1 : Int32} {Q : (Int32) → Prop} (hJ : JX σ0 σ) (hQ : ∀ r, Q r) : zq (zf_Machine_stepOf σ x1) Q := by
  unfold zf_Machine_stepOf
  refine zq_bind (q_f_Machine_wordOf hJ fun r1 => ?_)
  exact hQ _

theorem q_f_Machine_localOf {σ0 : zS} {σ : zS} {x1 : Int32} {x2 : Int32} {Q : (Int32) → Prop} (hJ : JX σ0 σ) (hQ : ∀ r, Q r) : zq (zf_Machine_localOf σ x1 x2) Q := by
  unfold zf_Machine_localOf
  refine zq_ite (fun c1 => ?_) fun c1 => ?_
  ·
    exact hQ _
  ·
    refine zq_ite (fun c2 => ?_) fun c2 => ?_
    ·
      exact hQ _
    ·
      refine zq_chk (by (first | with_reducible assumption | omega | grind)) fun c3 => ?_
      exact hQ _

theorem q_f_Machine_valueOf {σ0 : zS} {σ : zS} {x1 : Int32} {x2 : Int32} {Q : (Int32) → Prop} (hJ : JX σ0 σ) (hQ : ∀ r, Q r) : zq (zf_Machine_valueOf σ x1 x2) Q := by
  unfold zf_Machine_valueOf
  refine zq_ite (fun c1 => ?_) fun c1 => ?_
  ·
    refine zq_bind (q_f_Machine_localOf hJ fun r2 => ?_)
    exact hQ _
  ·
    exact hQ _

theorem q_f_Machine_holds {σ0 : zS} {σ : zS} {x1 : Int32} {x2 : Int32} {Q : (Int32) → Prop} (hJ : JX σ0 σ) (hP : 0 ≤ x2 ∧ x2 ≤ 96) (hQ : ∀ r, Q r) : zq (zf_Machine_holds σ x1 x2) Q := by
  unfold zf_Machine_holds
  refine zq_chk (by (first | with_reducible assumption | omega | grind)) fun c1 => ?_
  refine zq_bind (q_f_Machine_valueOf hJ fun r2 => ?_)
  refine zq_chk (by (first | with_reducible assumption | omega | grind)) fun c2 => ?_
  refine zq_bind (q_f_Machine_valueOf hJ fun r4 => ?_)
  refine zq_chk (by (first | with_reducible assumption | omega | grind)) fun c3 => ?_
  refine zq_ite (fun c4 => ?_) fun c4 => ?_
  ·
    refine zq_ite (fun c5 => ?_) fun c5 => ?_
    ·
      exact hQ _
    ·
      exact hQ _
  ·
    refine zq_ite (fun c6 => ?_) fun c6 => ?_
    ·
      refine zq_ite (fun c7 => ?_) fun c7 => ?_
      ·
        exact hQ _
      ·
        exact hQ _
    ·
      refine zq_ite (fun c8 => ?_) fun c8 => ?_
      ·
        refine zq_ite (fun c9 => ?_) fun c9 => ?_
        ·
          exact hQ _
        ·
          exact hQ _
      ·
        refine zq_ite (fun c10 => ?_) fun c10 => ?_
        ·
          exact hQ _
        ·
          exact hQ _
theorem q_f_Machine_startThread {σ0 : zS} {σ : zS} {x1 : Int32} {Q : (Int32 × zS) → Prop} (hJ : JX σ0 σ) (hQ : ∀ r, JX σ0 r.2 → Q r) : zq (zf_Machine_startThread σ x1) Q := by
  unfold zf_Machine_startThread
  refine zq_bind (q_f_Machine_howOf hJ fun r1 => ?_)
  refine zq_ite (fun c1 => ?_) fun c1 => ?_
  ·
    refine zq_bind (q_f_Machine_goTo hJ fun r3 jr3 => ?_)
    exact hQ _ jr3
  ·
    exact hQ _ hJ

theorem q_b_Machine_signal_49 {N : Nat} (hN : zBig ≤ N) {σ0 : zS} {v3 : Int32} {v4 : Int32} {Q : (Int32 × zS) → Prop} (hQ : ∀ r, JX σ0 r.2 → Q r) : ∀ (n : Nat) (σ : zS) (v5 : Int32) (v6 : Int32), JX σ0 σ → (0 ≤ v6) → zmu v6 < n → zq (zb_Machine_signal_49 N n σ v3 v4 v5 v6) Q := by
  intro n
  induction n with
  | zero => intro _ _ _ _ _ hn; exact absurd hn (Nat.not_lt_zero _)
  | succ n ih =>
    intro σ v5 v6 hJ hI hn
    rw [zb_Machine_signal_49]
    refine zq_ite (fun c1 => ?_) fun c1 => ?_
    ·
      exact hQ _ hJ
    ·
      refine zq_ite (fun c2 => ?_) fun c2 => ?_
      ·
        exact hQ _ hJ
      ·
        refine zq_bind (q_f_Machine_howOf hJ fun r8 => ?_)
        refine zq_ite (fun c3 => ?_) fun c3 => ?_
        ·
          show zq (zb_Machine_signal_121 (zb_Machine_signal_49 N n) N σ v3 v4 v5 v6) Q
          unfold zb_Machine_signal_121
          exact ih σ v5 (v6 + 1) hJ (by (first | with_reducible assumption | omega | grind)) (by first | exact zmu_up (by assumption) hn | exact zmu_up (b := 2147483647) (by (first | with_reducible assumption | omega | grind)) hn | (first | with_reducible assumption | omega | grind))
        ·
          refine zq_bind (q_f_Machine_slotOf hJ fun r10 pr10 => ?_)
          refine zq_chk (by (first | with_reducible assumption | omega | grind)) fun c4 => ?_
          refine zq_ite (fun c5 => ?_) fun c5 => ?_
          ·
            show zq (zb_Machine_signal_121 (zb_Machine_signal_49 N n) N σ v3 v4 v5 v6) Q
            unfold zb_Machine_signal_121
            exact ih σ v5 (v6 + 1) hJ (by (first | with_reducible assumption | omega | grind)) (by first | exact zmu_up (by assumption) hn | exact zmu_up (b := 2147483647) (by (first | with_reducible assumption | omega | grind)) hn | (first | with_reducible assumption | omega | grind))
          ·
            refine zq_bind (q_f_Machine_stepOf hJ fun r13 => ?_)
            refine zq_bind (q_f_Machine_place hJ fun r14 jr14 => ?_)
            refine zq_ite (fun c6 => ?_) fun c6 => ?_
            ·
              show zq (zb_Machine_signal_119 (zb_Machine_signal_49 N n) N r14 v3 v4 v6 0) Q
              unfold zb_Machine_signal_119
              show zq (zb_Machine_signal_121 (zb_Machine_signal_49 N n) N r14 v3 v4 0 v6) Q
              unfold zb_Machine_signal_121
              exact ih r14 0 (v6 + 1) jr14 (by (first | with_reducible assumption | omega | grind)) (by first | exact zmu_up (by assumption) hn | exact zmu_up (b := 2147483647) (by (first | with_reducible assumption | omega | grind)) hn | (first | with_reducible assumption | omega | grind))
            ·
              show zq (zb_Machine_signal_119 (zb_Machine_signal_49 N n) N r14 v3 v4 v6 1) Q
              unfold zb_Machine_signal_119
              show zq (zb_Machine_signal_121 (zb_Machine_signal_49 N n) N r14 v3 v4 1 v6) Q
              unfold zb_Machine_signal_121
              exact ih r14 1 (v6 + 1) jr14 (by (first | with_reducible assumption | omega | grind)) (by first | exact zmu_up (by assumption) hn | exact zmu_up (b := 2147483647) (by (first | with_reducible assumption | omega | grind)) hn | (first | with_reducible assumption | omega | grind))

theorem q_f_Machine_signal {N : Nat} (hN : zBig ≤ N) {σ0 : zS} {σ : zS} {x1 : Int32} {x2 : Int32} {Q : (Int32 × zS) → Prop} (hJ : JX σ0 σ) (hP : 0 ≤ x2 ∧ x2 ≤ 96) (hQ : ∀ r, JX σ0 r.2 → Q r) : zq (zf_Machine_signal N σ x1 x2) Q := by
  unfold zf_Machine_signal
  refine zq_chk (by (first | with_reducible assumption | omega | grind)) fun c1 => ?_
  refine zq_chk (by (first | with_reducible assumption | omega | grind)) fun c2 => ?_
  refine zq_bind (q_f_Machine_ownerOf hJ fun r3 => ?_)
  refine zq_ite (fun c3 => ?_) fun c3 => ?_
  ·
    refine zq_ite (fun c4 => ?_) fun c4 => ?_
    ·
      show zq (zb_Machine_signal_44 N σ (σ 8 x2.toNatClampNeg) (σ 7 x2.toNatClampNeg) 0) Q
      unfold zb_Machine_signal_44
      exact q_b_Machine_signal_49 hN hQ N σ 0 0 hJ (by (first | with_reducible assumption | omega | grind)) (by exact zmu_lt hN _)
    ·
      show zq (zb_Machine_signal_44 N σ (σ 8 x2.toNatClampNeg) (σ 7 x2.toNatClampNeg) 1) Q
      unfold zb_Machine_signal_44
      exact q_b_Machine_signal_49 hN hQ N σ 1 0 hJ (by (first | with_reducible assumption | omega | grind)) (by exact zmu_lt hN _)
  ·
    exact hQ _ hJ

theorem q_f_Machine_valueOfField {σ0 : zS} {σ : zS} {x1 : Int32} {Q : (Int32) → Prop} (hJ : JX σ0 σ) (hQ : ∀ r, Q r) : zq (zf_Machine_valueOfField σ x1) Q := by
  unfold zf_Machine_valueOfField
  exact hQ _

theorem q_b_Machine_work_121 {σ0 : zS} {σ : zS} {v2 : Int32} {v3 : Int32} {v4 : Int32} {s0 : Int32} {Q : (zS) → Prop} (hJ : JX σ0 σ) (hI : 0 ≤ v2 ∧ v2 ≤ 96) (hQ : ∀ r, JX σ0 r → Q r) : zq (zb_Machine_work_121 σ v2 v3 v4 s0) Q := by
  unfold zb_Machine_work_121
  refine zq_ite (fun c1 => ?_) fun c1 => ?_
  ·
    refine zq_chk (by (first | with_reducible assumption | omega | grind)) fun c2 => ?_
    show zq (zb_Machine_work_150 σ v4 s0 (σ 13 v2.toNatClampNeg) 3) Q
    unfold zb_Machine_work_150
    refine zq_ite (fun c3 => ?_) fun c3 => ?_
    ·
      exact hQ _ hJ
    ·
      refine zq_ite (fun c4 => ?_) fun c4 => ?_
      ·
        exact hQ _ hJ
      ·
        refine zq_chk (by (first | with_reducible assumption | omega | grind)) fun c5 => ?_
        refine zq_chk (by (first | with_reducible assumption | omega | grind)) fun c6 => ?_
        exact hQ _ (JX.up (by decide) hJ)
  ·
    refine zq_chk (by (first | with_reducible assumption | omega | grind)) fun c7 => ?_
    show zq (zb_Machine_work_150 σ v4 s0 (σ 8 v2.toNatClampNeg) 3) Q
    unfold zb_Machine_work_150
    refine zq_ite (fun c8 => ?_) fun c8 => ?_
    ·
      exact hQ _ hJ
    ·
      refine zq_ite (fun c9 => ?_) fun c9 => ?_
      ·
        exact hQ _ hJ
      ·
        refine zq_chk (by (first | with_reducible assumption | omega | grind)) fun c10 => ?_
        refine zq_chk (by (first | with_reducible assumption | omega | grind)) fun c11 => ?_
        exact hQ _ (JX.up (by decide) hJ)

theorem q_f_Machine_work {σ0 : zS} {σ : zS} {x1 : Int32} {x2 : Int32} {Q : (zS) → Prop} (hJ : JX σ0 σ) (hP : 0 ≤ x2 ∧ x2 ≤ 96) (hQ : ∀ r, JX σ0 r → Q r) : zq (zf_Machine_work σ x1 x2) Q := by
  unfold zf_Machine_work
  refine zq_chk (by (first | with_reducible assumption | omega | grind)) fun c1 => ?_
  refine zq_chk (by (first | with_reducible assumption | omega | grind)) fun c2 => ?_
  refine zq_bind (q_f_Machine_valueOf hJ fun r3 => ?_)
  refine zq_chk (by (first | with_reducible assumption | omega | grind)) fun c3 => ?_
  refine zq_bind (q_f_Machine_valueOf hJ fun r5 => ?_)
  refine zq_ite (fun c4 => ?_) fun c4 => ?_
  ·
    refine zq_chk (by (first | with_reducible assumption | omega | grind)) fun c5 => ?_
    refine zq_ite (fun c6 => ?_) fun c6 => ?_
    ·
      refine zq_chk (by (first | with_reducible assumption | omega | grind)) fun c7 => ?_
      refine zq_ite (fun c8 => ?_) fun c8 => ?_
      ·
        show zq (zb_Machine_work_109 σ x1 x2 (σ 7 x2.toNatClampNeg) r3) Q
        unfold zb_Machine_work_109
        refine zq_ite (fun c9 => ?_) fun c9 => ?_
        ·
          exact q_b_Machine_work_121 hJ (by (first | with_reducible assumption | omega | grind)) hQ
        ·
          exact q_b_Machine_work_121 hJ (by (first | with_reducible assumption | omega | grind)) hQ
      ·
        show zq (zb_Machine_work_109 σ x1 x2 (σ 7 x2.toNatClampNeg) (r3 - r5)) Q
        unfold zb_Machine_work_109
        refine zq_ite (fun c10 => ?_) fun c10 => ?_
        ·
          exact q_b_Machine_work_121 hJ (by (first | with_reducible assumption | omega | grind)) hQ
        ·
          exact q_b_Machine_work_121 hJ (by (first | with_reducible assumption | omega | grind)) hQ
    ·
      show zq (zb_Machine_work_109 σ x1 x2 (σ 7 x2.toNatClampNeg) (r3 + r5)) Q
      unfold zb_Machine_work_109
      refine zq_ite (fun c11 => ?_) fun c11 => ?_
      ·
        exact q_b_Machine_work_121 hJ (by (first | with_reducible assumption | omega | grind)) hQ
      ·
        exact q_b_Machine_work_121 hJ (by (first | with_reducible assumption | omega | grind)) hQ
  ·
    refine zq_chk (by (first | with_reducible assumption | omega | grind)) fun c12 => ?_
    refine zq_bind (q_f_Machine_valueOfField hJ fun r20 => ?_)
    show zq (zb_Machine_work_109 σ x1 x2 (σ 7 x2.toNatClampNeg) r20) Q
    unfold zb_Machine_work_109
    refine zq_ite (fun c13 => ?_) fun c13 => ?_
    ·
      exact q_b_Machine_work_121 hJ (by (first | with_reducible assumption | omega | grind)) hQ
    ·
      exact q_b_Machine_work_121 hJ (by (first | with_reducible assumption | omega | grind)) hQ

theorem q_b_Machine_move_261 {N : Nat} (hN : zBig ≤ N) {σ0 : zS} {σ : zS} {v1 : Int32} {v3 : Int32} {v5 : Int32} {v6 : Int32} {Q : (zS) → Prop} (hJ : JX σ0 σ) (hI : 0 ≤ v3 ∧ v3 ≤ 96) (hQ : ∀ r, JX σ0 r → Q r) : zq (zb_Machine_move_261 N σ v1 v3 v5 v6) Q := by
  unfold zb_Machine_move_261
  refine zq_ite (fun c1 => ?_) fun c1 => ?_
  ·
    refine zq_bind (q_f_Machine_howOf hJ fun r26 => ?_)
    refine zq_ite (fun c2 => ?_) fun c2 => ?_
    ·
      show zq (zb_Machine_move_317 N σ v1 v6) Q
      unfold zb_Machine_move_317
      refine zq_bind (q_f_Machine_goTo hJ fun r28 jr28 => ?_)
      exact hQ _ jr28
    ·
      refine zq_chk (by (first | with_reducible assumption | omega | grind)) fun c3 => ?_
      refine zq_ite (fun c4 => ?_) fun c4 => ?_
      ·
        show zq (zb_Machine_move_317 N σ v1 v6) Q
        unfold zb_Machine_move_317
        refine zq_bind (q_f_Machine_goTo hJ fun r28 jr28 => ?_)
        exact hQ _ jr28
      ·
        refine zq_bind (q_f_Machine_stepOf hJ fun r31 => ?_)
        refine zq_bind (q_f_Machine_place hJ fun r32 jr32 => ?_)
        exact hQ _ jr32
  ·
    refine zq_bind (q_f_Machine_stepOf hJ fun r33 => ?_)
    refine zq_bind (q_f_Machine_place hJ fun r34 jr34 => ?_)
    exact hQ _ jr34

theorem q_b_Machine_move_116 {N : Nat} (hN : zBig ≤ N) {σ0 : zS} {σ : zS} {v1 : Int32} {v3 : Int32} {v5 : Int32} {v6 : Int32} {s0 : Int32} {Q : (zS) → Prop} (hJ : JX σ0 σ) (hI : 0 ≤ v3 ∧ v3 ≤ 96) (hQ : ∀ r, JX σ0 r → Q r) : zq (zb_Machine_move_116 N σ v1 v3 v5 v6 s0) Q := by
  unfold zb_Machine_move_116
  refine zq_ite (fun c1 => ?_) fun c1 => ?_
  ·
    refine zq_bind (q_f_Machine_work hJ (by (first | with_reducible assumption | omega | grind)) fun r49 jr49 => ?_)
    exact q_b_Machine_move_261 hN jr49 (by (first | with_reducible assumption | omega | grind)) hQ
  ·
    refine zq_ite (fun c2 => ?_) fun c2 => ?_
    ·
      refine zq_bind (q_f_Machine_work hJ (by (first | with_reducible assumption | omega | grind)) fun r48 jr48 => ?_)
      exact q_b_Machine_move_261 hN jr48 (by (first | with_reducible assumption | omega | grind)) hQ
    ·
      refine zq_ite (fun c3 => ?_) fun c3 => ?_
      ·
        refine zq_bind (q_f_Machine_work hJ (by (first | with_reducible assumption | omega | grind)) fun r47 jr47 => ?_)
        exact q_b_Machine_move_261 hN jr47 (by (first | with_reducible assumption | omega | grind)) hQ
      ·
        refine zq_ite (fun c4 => ?_) fun c4 => ?_
        ·
          exact q_b_Machine_move_261 hN hJ (by (first | with_reducible assumption | omega | grind)) hQ
        ·
          refine zq_ite (fun c5 => ?_) fun c5 => ?_
          ·
            exact q_b_Machine_move_261 hN hJ (by (first | with_reducible assumption | omega | grind)) hQ
          ·
            refine zq_ite (fun c6 => ?_) fun c6 => ?_
            ·
              refine zq_bind (q_f_Machine_holds hJ (by (first | with_reducible assumption | omega | grind)) fun r44 => ?_)
              refine zq_ite (fun c7 => ?_) fun c7 => ?_
              ·
                refine zq_chk (by (first | with_reducible assumption | omega | grind)) fun c8 => ?_
                show zq (zb_Machine_move_216 N σ v1 v3 v5 (σ 10 v3.toNatClampNeg)) Q
                unfold zb_Machine_move_216
                exact q_b_Machine_move_261 hN hJ (by (first | with_reducible assumption | omega | grind)) hQ
              ·
                show zq (zb_Machine_move_216 N σ v1 v3 v5 v6) Q
                unfold zb_Machine_move_216
                exact q_b_Machine_move_261 hN hJ (by (first | with_reducible assumption | omega | grind)) hQ
            ·
              refine zq_ite (fun c9 => ?_) fun c9 => ?_
              ·
                refine zq_bind (q_f_Machine_holds hJ (by (first | with_reducible assumption | omega | grind)) fun r41 => ?_)
                refine zq_ite (fun c10 => ?_) fun c10 => ?_
                ·
                  refine zq_chk (by (first | with_reducible assumption | omega | grind)) fun c11 => ?_
                  show zq (zb_Machine_move_216 N σ v1 v3 v5 (σ 10 v3.toNatClampNeg)) Q
                  unfold zb_Machine_move_216
                  exact q_b_Machine_move_261 hN hJ (by (first | with_reducible assumption | omega | grind)) hQ
                ·
                  show zq (zb_Machine_move_216 N σ v1 v3 v5 v6) Q
                  unfold zb_Machine_move_216
                  exact q_b_Machine_move_261 hN hJ (by (first | with_reducible assumption | omega | grind)) hQ
              ·
                refine zq_ite (fun c12 => ?_) fun c12 => ?_
                ·
                  refine zq_bind (q_f_Machine_signal hN hJ (by (first | with_reducible assumption | omega | grind)) fun r40 jr40 => ?_)
                  exact q_b_Machine_move_261 hN jr40 (by (first | with_reducible assumption | omega | grind)) hQ
                ·
                  refine zq_ite (fun c13 => ?_) fun c13 => ?_
                  ·
                    refine zq_bind (q_f_Machine_signal hN hJ (by (first | with_reducible assumption | omega | grind)) fun r39 jr39 => ?_)
                    exact q_b_Machine_move_261 hN jr39 (by (first | with_reducible assumption | omega | grind)) hQ
                  ·
                    refine zq_ite (fun c14 => ?_) fun c14 => ?_
                    ·
                      refine zq_bind (q_f_Machine_signal hN hJ (by (first | with_reducible assumption | omega | grind)) fun r38 jr38 => ?_)
                      exact q_b_Machine_move_261 hN jr38 (by (first | with_reducible assumption | omega | grind)) hQ
                    ·
                      refine zq_ite (fun c15 => ?_) fun c15 => ?_
                      ·
                        refine zq_chk (by (first | with_reducible assumption | omega | grind)) fun c16 => ?_
                        refine zq_bind (q_f_Machine_startThread hJ fun r37 jr37 => ?_)
                        exact q_b_Machine_move_261 hN jr37 (by (first | with_reducible assumption | omega | grind)) hQ
                      ·
                        refine zq_ite (fun c17 => ?_) fun c17 => ?_
                        ·
                          exact q_b_Machine_move_261 hN hJ (by (first | with_reducible assumption | omega | grind)) hQ
                        ·
                          refine zq_ite (fun c18 => ?_) fun c18 => ?_
                          ·
                            refine zq_bind (q_f_Machine_holds hJ (by (first | with_reducible assumption | omega | grind)) fun r35 => ?_)
                            exact q_b_Machine_move_261 hN hJ (by (first | with_reducible assumption | omega | grind)) hQ
                          ·
                            exact q_b_Machine_move_261 hN hJ (by (first | with_reducible assumption | omega | grind)) hQ

theorem q_f_Machine_move {N : Nat} (hN : zBig ≤ N) {σ0 : zS} {σ : zS} {x1 : Int32} {x2 : Int32} {Q : (zS) → Prop} (hJ : JX σ0 σ) (hQ : ∀ r, JX σ0 r → Q r) : zq (zf_Machine_move N σ x1 x2) Q := by
  unfold zf_Machine_move
  refine zq_ite (fun c1 => ?_) fun c1 => ?_
  ·
    exact hQ _ hJ
  ·
    refine zq_ite (fun c2 => ?_) fun c2 => ?_
    ·
      refine zq_bind (q_f_Machine_slotOf hJ fun r3 pr3 => ?_)
      refine zq_ite (fun c3 => ?_) fun c3 => ?_
      ·
        show zq (zb_Machine_move_38 N σ x1 r3) Q
        unfold zb_Machine_move_38
        show zq (zb_Machine_move_39 N σ x1 r3 0) Q
        unfold zb_Machine_move_39
        refine zq_chk (by (first | with_reducible assumption | omega | grind)) fun c4 => ?_
        refine zq_chk (by (first | with_reducible assumption | omega | grind)) fun c5 => ?_
        refine zq_chk (by (first | with_reducible assumption | omega | grind)) fun c6 => ?_
        refine zq_bind (q_f_Machine_howOf (JX.up (by decide) (JX.cp (by decide) hJ)) fun r9 => ?_)
        refine zq_ite (fun c7 => ?_) fun c7 => ?_
        ·
          refine zq_chk (by (first | with_reducible assumption | omega | grind)) fun c8 => ?_
          exact q_b_Machine_move_116 hN (JX.up (by decide) (JX.cp (by decide) hJ)) (by have := (show (zJ_copy σ 39 40 0 0 5) 9 r3.toNatClampNeg = σ 9 r3.toNatClampNeg from rfl); have := (show (zJ_copy σ 39 40 0 0 5) 7 r3.toNatClampNeg = σ 7 r3.toNatClampNeg from rfl); (first | with_reducible assumption | omega | grind)) hQ
        ·
          exact q_b_Machine_move_116 hN (JX.up (by decide) (JX.cp (by decide) hJ)) (by have := (show (zJ_copy σ 39 40 0 0 5) 9 r3.toNatClampNeg = σ 9 r3.toNatClampNeg from rfl); (first | with_reducible assumption | omega | grind)) hQ
      ·
        refine zq_chk (by (first | with_reducible assumption | omega | grind)) fun c9 => ?_
        refine zq_ite (fun c10 => ?_) fun c10 => ?_
        ·
          show zq (zb_Machine_move_38 N σ x1 r3) Q
          unfold zb_Machine_move_38
          show zq (zb_Machine_move_39 N σ x1 r3 0) Q
          unfold zb_Machine_move_39
          refine zq_chk (by (first | with_reducible assumption | omega | grind)) fun c11 => ?_
          refine zq_chk (by (first | with_reducible assumption | omega | grind)) fun c12 => ?_
          refine zq_chk (by (first | with_reducible assumption | omega | grind)) fun c13 => ?_
          refine zq_bind (q_f_Machine_howOf (JX.up (by decide) (JX.cp (by decide) hJ)) fun r9 => ?_)
          refine zq_ite (fun c14 => ?_) fun c14 => ?_
          ·
            refine zq_chk (by (first | with_reducible assumption | omega | grind)) fun c15 => ?_
            exact q_b_Machine_move_116 hN (JX.up (by decide) (JX.cp (by decide) hJ)) (by have := (show (zJ_copy σ 39 40 0 0 5) 9 r3.toNatClampNeg = σ 9 r3.toNatClampNeg from rfl); have := (show (zJ_copy σ 39 40 0 0 5) 7 r3.toNatClampNeg = σ 7 r3.toNatClampNeg from rfl); (first | with_reducible assumption | omega | grind)) hQ
          ·
            exact q_b_Machine_move_116 hN (JX.up (by decide) (JX.cp (by decide) hJ)) (by have := (show (zJ_copy σ 39 40 0 0 5) 9 r3.toNatClampNeg = σ 9 r3.toNatClampNeg from rfl); (first | with_reducible assumption | omega | grind)) hQ
        ·
          show zq (zb_Machine_move_39 N σ x1 r3 1) Q
          unfold zb_Machine_move_39
          refine zq_chk (by (first | with_reducible assumption | omega | grind)) fun c16 => ?_
          refine zq_chk (by (first | with_reducible assumption | omega | grind)) fun c17 => ?_
          refine zq_chk (by (first | with_reducible assumption | omega | grind)) fun c18 => ?_
          refine zq_bind (q_f_Machine_howOf (JX.up (by decide) (JX.cp (by decide) hJ)) fun r9 => ?_)
          refine zq_ite (fun c19 => ?_) fun c19 => ?_
          ·
            refine zq_chk (by (first | with_reducible assumption | omega | grind)) fun c20 => ?_
            exact q_b_Machine_move_116 hN (JX.up (by decide) (JX.cp (by decide) hJ)) (by have := (show (zJ_copy σ 39 40 0 0 5) 9 r3.toNatClampNeg = σ 9 r3.toNatClampNeg from rfl); have := (show (zJ_copy σ 39 40 0 0 5) 7 r3.toNatClampNeg = σ 7 r3.toNatClampNeg from rfl); (first | with_reducible assumption | omega | grind)) hQ
          ·
            exact q_b_Machine_move_116 hN (JX.up (by decide) (JX.cp (by decide) hJ)) (by have := (show (zJ_copy σ 39 40 0 0 5) 9 r3.toNatClampNeg = σ 9 r3.toNatClampNeg from rfl); (first | with_reducible assumption | omega | grind)) hQ
    ·
      exact hQ _ hJ

theorem q_b_Space_exploreFrom_48 {N : Nat} (hN : zBig ≤ N) {k20 : zS → Int32 → Int32 → Int32 → Int32 → Int32 → Option (Int32 × zS)} {σ0 : zS} {σ : zS} {v1 : Int32} {v2 : Int32} {v3 : Int32} {v4 : Int32} {v5 : Int32} {s0 : Int32} {Q : (Int32 × zS) → Prop} (hJ : JX σ0 σ) (hQ : ∀ r, JX σ0 r.2 → (r.1 = 0 ∨ r.1 = 1) → Q r) (hk20_0 : zq (k20 σ v1 v2 v3 v4 (v5 + 1)) Q) (hk20_1 : ∀ (y0 : zS), JX σ0 y0 → zq (k20 y0 v1 v2 v3 0 (v5 + 1)) Q) : zq (zb_Space_exploreFrom_48 k20 N σ v1 v2 v3 v4 v5 s0) Q := by
  unfold zb_Space_exploreFrom_48
  refine zq_ite (fun c1 => ?_) fun c1 => ?_
  ·
    show zq (zb_Space_exploreFrom_95 k20 N σ v1 v2 v3 v4 v5) Q
    unfold zb_Space_exploreFrom_95
    exact hk20_0  
  ·
    refine zq_bind (q_f_Machine_canMove hJ fun r9 => ?_)
    refine zq_ite (fun c2 => ?_) fun c2 => ?_
    ·
      show zq (zb_Space_exploreFrom_95 k20 N σ v1 v2 v3 v4 v5) Q
      unfold zb_Space_exploreFrom_95
      exact hk20_0  
    ·
      refine zq_bind (q_f_Machine_move hN hJ fun r11 jr11 => ?_)
      refine zq_bind (q_f_Space_note hN jr11 fun r12 jr12 pr12 => ?_)
      refine zq_ite (fun c3 => ?_) fun c3 => ?_
      ·
        show zq (zb_Space_exploreFrom_95 k20 N r12.2 v1 v2 v3 0 v5) Q
        unfold zb_Space_exploreFrom_95
        exact hk20_1 r12.2 jr12
      ·
        exact hQ _ jr12 (by (first | with_reducible assumption | omega | grind))

theorem q_b_Space_exploreFrom_20 {N : Nat} (hN : zBig ≤ N) {σ0 : zS} {v1 : Int32} {v2 : Int32} {v3 : Int32} {Q : (Int32 × zS) → Prop} (hQ : ∀ r, JX σ0 r.2 → (r.1 = 0 ∨ r.1 = 1) → Q r) : ∀ (n : Nat) (σ : zS) (v4 : Int32) (v5 : Int32), JX σ0 σ → (0 ≤ v5) → zmu v5 < n → zq (zb_Space_exploreFrom_20 N n σ v1 v2 v3 v4 v5) Q := by
  intro n
  induction n with
  | zero => intro _ _ _ _ _ hn; exact absurd hn (Nat.not_lt_zero _)
  | succ n ih =>
    intro σ v4 v5 hJ hI hn
    rw [zb_Space_exploreFrom_20]
    refine zq_ite (fun c1 => ?_) fun c1 => ?_
    ·
      refine zq_bind (q_f_Space_has hJ fun r4 pr4 => ?_)
      refine zq_ite (fun c2 => ?_) fun c2 => ?_
      ·
        exact hQ _ hJ (by (first | with_reducible assumption | omega | grind))
      ·
        refine zq_chk (by (first | with_reducible assumption | omega | grind)) fun c3 => ?_
        exact hQ _ (JX.up (by decide) hJ) (by (first | with_reducible assumption | omega | grind))
    ·
      refine zq_ite (fun c4 => ?_) fun c4 => ?_
      ·
        show zq (zb_Space_exploreFrom_43 (zb_Space_exploreFrom_20 N n) N σ v1 v2 v3 v4 v5) Q
        unfold zb_Space_exploreFrom_43
        exact q_b_Space_exploreFrom_48 hN hJ hQ (ih σ v4 (v5 + 1) hJ (by (first | with_reducible assumption | omega | grind)) (by first | exact zmu_up (by assumption) hn | exact zmu_up (b := 2147483647) (by (first | with_reducible assumption | omega | grind)) hn | (first | with_reducible assumption | omega | grind))) (fun y0 jy => ih y0 0 (v5 + 1) jy (by (first | with_reducible assumption | omega | grind)) (by first | exact zmu_up (by assumption) hn | exact zmu_up (b := 2147483647) (by (first | with_reducible assumption | omega | grind)) hn | (first | with_reducible assumption | omega | grind)))
      ·
        refine zq_ite (fun c5 => ?_) fun c5 => ?_
        ·
          exact q_b_Space_exploreFrom_48 hN hJ hQ (ih σ v4 (v5 + 1) hJ (by (first | with_reducible assumption | omega | grind)) (by first | exact zmu_up (by assumption) hn | exact zmu_up (b := 2147483647) (by (first | with_reducible assumption | omega | grind)) hn | (first | with_reducible assumption | omega | grind))) (fun y0 jy => ih y0 0 (v5 + 1) jy (by (first | with_reducible assumption | omega | grind)) (by first | exact zmu_up (by assumption) hn | exact zmu_up (b := 2147483647) (by (first | with_reducible assumption | omega | grind)) hn | (first | with_reducible assumption | omega | grind)))
        ·
          show zq (zb_Space_exploreFrom_43 (zb_Space_exploreFrom_20 N n) N σ v1 v2 v3 v4 v5) Q
          unfold zb_Space_exploreFrom_43
          exact q_b_Space_exploreFrom_48 hN hJ hQ (ih σ v4 (v5 + 1) hJ (by (first | with_reducible assumption | omega | grind)) (by first | exact zmu_up (by assumption) hn | exact zmu_up (b := 2147483647) (by (first | with_reducible assumption | omega | grind)) hn | (first | with_reducible assumption | omega | grind))) (fun y0 jy => ih y0 0 (v5 + 1) jy (by (first | with_reducible assumption | omega | grind)) (by first | exact zmu_up (by assumption) hn | exact zmu_up (b := 2147483647) (by (first | with_reducible assumption | omega | grind)) hn | (first | with_reducible assumption | omega | grind)))

theorem q_f_Space_exploreFrom {N : Nat} (hN : zBig ≤ N) {σ0 : zS} {σ : zS} {x1 : Int32} {x2 : Int32} {Q : (Int32 × zS) → Prop} (hJ : JX σ0 σ) (hQ : ∀ r, JX σ0 r.2 → (r.1 = 0 ∨ r.1 = 1) → Q r) : zq (zf_Space_exploreFrom N σ x1 x2) Q := by
  unfold zf_Space_exploreFrom
  refine zq_bind (q_f_Space_load hN hJ fun r1 jr1 => ?_)
  refine zq_bind (q_f_Machine_aloneIn hN jr1 fun r2 => ?_)
  exact q_b_Space_exploreFrom_20 hN hQ N r1 1 0 jr1 (by (first | with_reducible assumption | omega | grind)) (by exact zmu_lt hN _)

theorem q_b_Space_explore_28 {N : Nat} (hN : zBig ≤ N) {σ0 : zS} {v1 : Int32} {Q : (Int32 × zS) → Prop} (hQ : ∀ r, JX σ0 r.2 → (r.1 = 0 ∨ r.1 = 1) → Q r) : ∀ (n : Nat) (σ : zS) (v2 : Int32) (v3 : Int32), JX σ0 σ → (((v2 = 0 ∨ v2 = 1)) ∧ 0 ≤ v3) → zmu v3 < n → zq (zb_Space_explore_28 N n σ v1 v2 v3) Q := by
  intro n
  induction n with
  | zero => intro _ _ _ _ _ hn; exact absurd hn (Nat.not_lt_zero _)
  | succ n ih =>
    intro σ v2 v3 hJ hI hn
    rw [zb_Space_explore_28]
    refine zq_ite (fun c1 => ?_) fun c1 => ?_
    ·
      refine zq_chk (by (first | with_reducible assumption | omega | grind)) fun c2 => ?_
      exact hQ _ hJ (by (first | with_reducible assumption | omega | grind))
    ·
      refine zq_ite (fun c3 => ?_) fun c3 => ?_
      ·
        refine zq_chk (by (first | with_reducible assumption | omega | grind)) fun c4 => ?_
        exact hQ _ hJ (by (first | with_reducible assumption | omega | grind))
      ·
        refine zq_ite (fun c5 => ?_) fun c5 => ?_
        ·
          refine zq_chk (by (first | with_reducible assumption | omega | grind)) fun c6 => ?_
          exact hQ _ hJ (by (first | with_reducible assumption | omega | grind))
        ·
          refine zq_bind (q_f_Space_exploreFrom hN hJ fun r10 jr10 pr10 => ?_)
          exact ih r10.2 r10.1 (v3 + 1) jr10 (by (first | with_reducible assumption | omega | grind)) (by first | exact zmu_up (by assumption) hn | exact zmu_up (b := 2147483647) (by (first | with_reducible assumption | omega | grind)) hn | (first | with_reducible assumption | omega | grind))

theorem q_f_Space_explore {N : Nat} (hN : zBig ≤ N) {σ0 : zS} {σ : zS} {x1 : Int32} {Q : (Int32 × zS) → Prop} (hJ : JX σ0 σ) (hQ : ∀ r, JX σ0 r.2 → (r.1 = 0 ∨ r.1 = 1) → Q r) : zq (zf_Space_explore N σ x1) Q := by
  unfold zf_Space_explore
  refine zq_bind (q_f_Arrays_fill_c3 hN (JX.up (by decide) hJ) fun r1 jr1 => ?_)
  refine zq_bind (q_f_Machine_setFirst hN jr1 fun r2 jr2 => ?_)
  refine zq_bind (q_f_Space_note hN jr2 fun r3 jr3 pr3 => ?_)
  exact q_b_Space_explore_28 hN hQ N r3.2 r3.1 0 jr3 (by (first | with_reducible assumption | omega | grind)) (by exact zmu_lt hN _)

theorem q_f_Numbers_clear {σ0 : zS} {σ : zS} {Q : (zS) → Prop} (hJ : JX σ0 σ) (hQ : ∀ r, JX σ0 r → Q r) : zq (zf_Numbers_clear σ) Q := by
  unfold zf_Numbers_clear
  exact hQ _ (JX.up (by decide) hJ)

theorem q_f_Numbers_clear_c1 {σ0 : zS} {σ : zS} {Q : (zS) → Prop} (hJ : JX σ0 σ) (hQ : ∀ r, JX σ0 r → Q r) : zq (zf_Numbers_clear_c1 σ) Q := by
  unfold zf_Numbers_clear_c1
  exact hQ _ (JX.up (by decide) hJ)

theorem q_f_Numbers_clear_c2 {σ0 : zS} {σ : zS} {Q : (zS) → Prop} (hJ : JX σ0 σ) (hQ : ∀ r, JX σ0 r → Q r) : zq (zf_Numbers_clear_c2 σ) Q := by
  unfold zf_Numbers_clear_c2
  exact hQ _ (JX.up (by decide) hJ)

theorem q_b_Arrays_fill_c5_5 {N : Nat} (hN : zBig ≤ N) {σ0 : zS} {v1 : Int32} {v3 : Int32} {Q : (zS) → Prop} (hQ : ∀ r, JX σ0 r → Q r) : ∀ (n : Nat) (σ : zS) (v2 : Int32), JX σ0 σ → (0 ≤ v2 ∧ v3 = 9216) → zmu v2 < n → zq (zb_Arrays_fill_c5_5 N n σ v1 v2 v3) Q := by
  intro n
  induction n with
  | zero => intro _ _ _ _ hn; exact absurd hn (Nat.not_lt_zero _)
  | succ n ih =>
    intro σ v2 hJ hI hn
    rw [zb_Arrays_fill_c5_5]
    refine zq_ite (fun c1 => ?_) fun c1 => ?_
    ·
      exact hQ _ hJ
    ·
      refine zq_chk (by (first | with_reducible assumption | omega | grind)) fun c2 => ?_
      exact ih (zx_up σ 57 v2.toNatClampNeg v1) (v2 + 1) (JX.up (by decide) hJ) (by (first | with_reducible assumption | omega | grind)) (by first | exact zmu_up (by assumption) hn | exact zmu_up (b := 2147483647) (by (first | with_reducible assumption | omega | grind)) hn | (first | with_reducible assumption | omega | grind))

theorem q_f_Arrays_fill_c5 {N : Nat} (hN : zBig ≤ N) {σ0 : zS} {σ : zS} {x2 : Int32} {Q : (zS) → Prop} (hJ : JX σ0 σ) (hQ : ∀ r, JX σ0 r → Q r) : zq (zf_Arrays_fill_c5 N σ x2) Q := by
  unfold zf_Arrays_fill_c5
  exact q_b_Arrays_fill_c5_5 hN hQ N σ 0 hJ (by (first | with_reducible assumption | omega | grind)) (by exact zmu_lt hN _)

theorem q_f_Numbers_clear_c3 {σ0 : zS} {σ : zS} {Q : (zS) → Prop} (hJ : JX σ0 σ) (hQ : ∀ r, JX σ0 r → Q r) : zq (zf_Numbers_clear_c3 σ) Q := by
  unfold zf_Numbers_clear_c3
  exact hQ _ (JX.up (by decide) hJ)

theorem q_f_Numbers_clear_c4 {σ0 : zS} {σ : zS} {Q : (zS) → Prop} (hJ : JX σ0 σ) (hQ : ∀ r, JX σ0 r → Q r) : zq (zf_Numbers_clear_c4 σ) Q := by
  unfold zf_Numbers_clear_c4
  exact hQ _ (JX.up (by decide) hJ)

theorem q_f_Numbers_add {σ0 : zS} {σ : zS} {x1 : Int32} {Q : (zS) → Prop} (hJ : JX σ0 σ) (hQ : ∀ r, JX σ0 r → Q r) : zq (zf_Numbers_add σ x1) Q := by
  unfold zf_Numbers_add
  refine zq_ite (fun c1 => ?_) fun c1 => ?_
  ·
    exact hQ _ hJ
  ·
    refine zq_ite (fun c2 => ?_) fun c2 => ?_
    ·
      exact hQ _ hJ
    ·
      refine zq_chk (by (first | with_reducible assumption | omega | grind)) fun c3 => ?_
      exact hQ _ (JX.up (by decide) (JX.up (by decide) hJ))

theorem q_f_Numbers_add_c1 {σ0 : zS} {σ : zS} {x1 : Int32} {Q : (zS) → Prop} (hJ : JX σ0 σ) (hQ : ∀ r, JX σ0 r → Q r) : zq (zf_Numbers_add_c1 σ x1) Q := by
  unfold zf_Numbers_add_c1
  refine zq_ite (fun c1 => ?_) fun c1 => ?_
  ·
    exact hQ _ hJ
  ·
    refine zq_ite (fun c2 => ?_) fun c2 => ?_
    ·
      exact hQ _ hJ
    ·
      refine zq_chk (by (first | with_reducible assumption | omega | grind)) fun c3 => ?_
      exact hQ _ (JX.up (by decide) (JX.up (by decide) hJ))

theorem q_b_Findings_listRaces_16 {N : Nat} (hN : zBig ≤ N) {σ0 : zS} {Q : (zS) → Prop} (hQ : ∀ r, JX σ0 r → Q r) : ∀ (n : Nat) (σ : zS) (v1 : Int32), JX σ0 σ → (0 ≤ v1) → zmu v1 < n → zq (zb_Findings_listRaces_16 N n σ v1) Q := by
  intro n
  induction n with
  | zero => intro _ _ _ _ hn; exact absurd hn (Nat.not_lt_zero _)
  | succ n ih =>
    intro σ v1 hJ hI hn
    rw [zb_Findings_listRaces_16]
    refine zq_ite (fun c1 => ?_) fun c1 => ?_
    ·
      exact hQ _ hJ
    ·
      refine zq_chk (by (first | with_reducible assumption | omega | grind)) fun c2 => ?_
      refine zq_ite (fun c3 => ?_) fun c3 => ?_
      ·
        show zq (zb_Findings_listRaces_56 (zb_Findings_listRaces_16 N n) N σ v1) Q
        unfold zb_Findings_listRaces_56
        exact ih σ (v1 + 1) hJ (by (first | with_reducible assumption | omega | grind)) (by first | exact zmu_up (by assumption) hn | exact zmu_up (b := 2147483647) (by (first | with_reducible assumption | omega | grind)) hn | (first | with_reducible assumption | omega | grind))
      ·
        refine zq_bind (q_f_Numbers_add hJ fun r6 jr6 => ?_)
        refine zq_chk (by (first | with_reducible assumption | omega | grind)) fun c4 => ?_
        refine zq_bind (q_f_Numbers_add_c1 jr6 fun r8 jr8 => ?_)
        show zq (zb_Findings_listRaces_56 (zb_Findings_listRaces_16 N n) N r8 v1) Q
        unfold zb_Findings_listRaces_56
        exact ih r8 (v1 + 1) jr8 (by (first | with_reducible assumption | omega | grind)) (by first | exact zmu_up (by assumption) hn | exact zmu_up (b := 2147483647) (by (first | with_reducible assumption | omega | grind)) hn | (first | with_reducible assumption | omega | grind))

theorem q_f_Findings_listRaces {N : Nat} (hN : zBig ≤ N) {σ0 : zS} {σ : zS} {Q : (zS) → Prop} (hJ : JX σ0 σ) (hQ : ∀ r, JX σ0 r → Q r) : zq (zf_Findings_listRaces N σ) Q := by
  unfold zf_Findings_listRaces
  refine zq_bind (q_f_Numbers_clear_c3 hJ fun r1 jr1 => ?_)
  refine zq_bind (q_f_Numbers_clear_c4 jr1 fun r2 jr2 => ?_)
  exact q_b_Findings_listRaces_16 hN hQ N r2 0 jr2 (by (first | with_reducible assumption | omega | grind)) (by exact zmu_lt hN _)

theorem q_f_Numbers_clear_c5 {σ0 : zS} {σ : zS} {Q : (zS) → Prop} (hJ : JX σ0 σ) (hQ : ∀ r, JX σ0 r → Q r) : zq (zf_Numbers_clear_c5 σ) Q := by
  unfold zf_Numbers_clear_c5
  exact hQ _ (JX.up (by decide) hJ)

theorem q_f_Numbers_clear_c6 {σ0 : zS} {σ : zS} {Q : (zS) → Prop} (hJ : JX σ0 σ) (hQ : ∀ r, JX σ0 r → Q r) : zq (zf_Numbers_clear_c6 σ) Q := by
  unfold zf_Numbers_clear_c6
  exact hQ _ (JX.up (by decide) hJ)

theorem q_b_Arrays_fill_c6_5 {N : Nat} (hN : zBig ≤ N) {σ0 : zS} {v1 : Int32} {v3 : Int32} {Q : (zS) → Prop} (hQ : ∀ r, JX σ0 r → Q r) : ∀ (n : Nat) (σ : zS) (v2 : Int32), JX σ0 σ → (0 ≤ v2 ∧ v3 = 8192) → zmu v2 < n → zq (zb_Arrays_fill_c6_5 N n σ v1 v2 v3) Q := by
  intro n
  induction n with
  | zero => intro _ _ _ _ hn; exact absurd hn (Nat.not_lt_zero _)
  | succ n ih =>
    intro σ v2 hJ hI hn
    rw [zb_Arrays_fill_c6_5]
    refine zq_ite (fun c1 => ?_) fun c1 => ?_
    ·
      exact hQ _ hJ
    ·
      refine zq_chk (by (first | with_reducible assumption | omega | grind)) fun c2 => ?_
      exact ih (zx_up σ 63 v2.toNatClampNeg v1) (v2 + 1) (JX.up (by decide) hJ) (by (first | with_reducible assumption | omega | grind)) (by first | exact zmu_up (by assumption) hn | exact zmu_up (b := 2147483647) (by (first | with_reducible assumption | omega | grind)) hn | (first | with_reducible assumption | omega | grind))

theorem q_f_Arrays_fill_c6 {N : Nat} (hN : zBig ≤ N) {σ0 : zS} {σ : zS} {x2 : Int32} {Q : (zS) → Prop} (hJ : JX σ0 σ) (hQ : ∀ r, JX σ0 r → Q r) : zq (zf_Arrays_fill_c6 N σ x2) Q := by
  unfold zf_Arrays_fill_c6
  exact q_b_Arrays_fill_c6_5 hN hQ N σ 0 hJ (by (first | with_reducible assumption | omega | grind)) (by exact zmu_lt hN _)

theorem q_f_Space_isLast {σ0 : zS} {σ : zS} {x1 : Int32} {Q : (Int32) → Prop} (hJ : JX σ0 σ) (hQ : ∀ r, Q r) : zq (zf_Space_isLast σ x1) Q := by
  unfold zf_Space_isLast
  refine zq_bind (q_f_Space_has hJ fun r1 pr1 => ?_)
  refine zq_ite (fun c1 => ?_) fun c1 => ?_
  ·
    exact hQ _
  ·
    refine zq_chk (by (first | with_reducible assumption | omega | grind)) fun c2 => ?_
    refine zq_ite (fun c3 => ?_) fun c3 => ?_
    ·
      exact hQ _
    ·
      exact hQ _

theorem q_f_Machine_isGone {σ0 : zS} {σ : zS} {x1 : Int32} {Q : (Int32) → Prop} (hJ : JX σ0 σ) (hQ : ∀ r, Q r) : zq (zf_Machine_isGone σ x1) Q := by
  unfold zf_Machine_isGone
  refine zq_bind (q_f_Machine_howOf hJ fun r1 => ?_)
  refine zq_ite (fun c1 => ?_) fun c1 => ?_
  ·
    show zq (zb_Machine_isGone_20 σ) Q
    unfold zb_Machine_isGone_20
    exact hQ _
  ·
    refine zq_ite (fun c2 => ?_) fun c2 => ?_
    ·
      show zq (zb_Machine_isGone_20 σ) Q
      unfold zb_Machine_isGone_20
      exact hQ _
    ·
      refine zq_ite (fun c3 => ?_) fun c3 => ?_
      ·
        exact hQ _
      ·
        show zq (zb_Machine_isGone_20 σ) Q
        unfold zb_Machine_isGone_20
        exact hQ _

theorem q_b_Machine_isOver_2 {N : Nat} (hN : zBig ≤ N) {σ0 : zS} {σ : zS} {Q : (Int32) → Prop} (hJ : JX σ0 σ) (hQ : ∀ r, Q r) : ∀ (n : Nat) (v1 : Int32), (0 ≤ v1) → zmu v1 < n → zq (zb_Machine_isOver_2 N n σ v1) Q := by
  intro n
  induction n with
  | zero => intro _ _ hn; exact absurd hn (Nat.not_lt_zero _)
  | succ n ih =>
    intro v1 hI hn
    rw [zb_Machine_isOver_2]
    refine zq_ite (fun c1 => ?_) fun c1 => ?_
    ·
      exact hQ _
    ·
      refine zq_bind (q_f_Machine_isGone hJ fun r2 => ?_)
      refine zq_ite (fun c2 => ?_) fun c2 => ?_
      ·
        exact ih (v1 + 1) (by (first | with_reducible assumption | omega | grind)) (by first | exact zmu_up (by assumption) hn | exact zmu_up (b := 2147483647) (by (first | with_reducible assumption | omega | grind)) hn | (first | with_reducible assumption | omega | grind))
      ·
        exact hQ _

theorem q_f_Machine_isOver {N : Nat} (hN : zBig ≤ N) {σ0 : zS} {σ : zS} {Q : (Int32) → Prop} (hJ : JX σ0 σ) (hQ : ∀ r, Q r) : zq (zf_Machine_isOver N σ) Q := by
  unfold zf_Machine_isOver
  exact q_b_Machine_isOver_2 hN hJ hQ N 0 (by (first | with_reducible assumption | omega | grind)) (by exact zmu_lt hN _)

theorem q_b_Machine_failed_4 {N : Nat} (hN : zBig ≤ N) {σ0 : zS} {σ : zS} {Q : (Int32) → Prop} (hJ : JX σ0 σ) (hQ : ∀ r, Q r) : ∀ (n : Nat) (v1 : Int32) (v2 : Int32), (0 ≤ v2) → zmu v2 < n → zq (zb_Machine_failed_4 N n σ v1 v2) Q := by
  intro n
  induction n with
  | zero => intro _ _ _ hn; exact absurd hn (Nat.not_lt_zero _)
  | succ n ih =>
    intro v1 v2 hI hn
    rw [zb_Machine_failed_4]
    refine zq_ite (fun c1 => ?_) fun c1 => ?_
    ·
      exact hQ _
    ·
      refine zq_bind (q_f_Machine_howOf hJ fun r2 => ?_)
      refine zq_ite (fun c2 => ?_) fun c2 => ?_
      ·
        show zq (zb_Machine_failed_30 (zb_Machine_failed_4 N n) N σ v1 v2) Q
        unfold zb_Machine_failed_30
        exact ih v1 (v2 + 1) (by (first | with_reducible assumption | omega | grind)) (by first | exact zmu_up (by assumption) hn | exact zmu_up (b := 2147483647) (by (first | with_reducible assumption | omega | grind)) hn | (first | with_reducible assumption | omega | grind))
      ·
        show zq (zb_Machine_failed_30 (zb_Machine_failed_4 N n) N σ (v1 ||| (zJ_shl 1 v2)) v2) Q
        unfold zb_Machine_failed_30
        exact ih (v1 ||| (zJ_shl 1 v2)) (v2 + 1) (by (first | with_reducible assumption | omega | grind)) (by first | exact zmu_up (by assumption) hn | exact zmu_up (b := 2147483647) (by (first | with_reducible assumption | omega | grind)) hn | (first | with_reducible assumption | omega | grind))

theorem q_f_Machine_failed {N : Nat} (hN : zBig ≤ N) {σ0 : zS} {σ : zS} {Q : (Int32) → Prop} (hJ : JX σ0 σ) (hQ : ∀ r, Q r) : zq (zf_Machine_failed N σ) Q := by
  unfold zf_Machine_failed
  exact q_b_Machine_failed_4 hN hJ hQ N 0 0 (by (first | with_reducible assumption | omega | grind)) (by exact zmu_lt hN _)

theorem q_f_Machine_outcome {N : Nat} (hN : zBig ≤ N) {σ0 : zS} {σ : zS} {Q : (Int32) → Prop} (hJ : JX σ0 σ) (hQ : ∀ r, Q r) : zq (zf_Machine_outcome N σ) Q := by
  unfold zf_Machine_outcome
  refine zq_bind (q_f_Machine_isOver hN hJ fun r1 => ?_)
  refine zq_ite (fun c1 => ?_) fun c1 => ?_
  ·
    show zq (zb_Machine_outcome_12 N σ 1) Q
    unfold zb_Machine_outcome_12
    refine zq_bind (q_f_Machine_failed hN hJ fun r3 => ?_)
    exact hQ _
  ·
    show zq (zb_Machine_outcome_12 N σ 0) Q
    unfold zb_Machine_outcome_12
    refine zq_bind (q_f_Machine_failed hN hJ fun r3 => ?_)
    exact hQ _

theorem q_f_Numbers_get {σ0 : zS} {σ : zS} {x1 : Int32} {Q : (Int32) → Prop} (hJ : JX σ0 σ) (hQ : ∀ r, Q r) : zq (zf_Numbers_get σ x1) Q := by
  unfold zf_Numbers_get
  refine zq_ite (fun c1 => ?_) fun c1 => ?_
  ·
    show zq (zb_Numbers_get_21 σ) Q
    unfold zb_Numbers_get_21
    exact hQ _
  ·
    refine zq_ite (fun c2 => ?_) fun c2 => ?_
    ·
      show zq (zb_Numbers_get_21 σ) Q
      unfold zb_Numbers_get_21
      exact hQ _
    ·
      refine zq_ite (fun c3 => ?_) fun c3 => ?_
      ·
        refine zq_chk (by (first | with_reducible assumption | omega | grind)) fun c4 => ?_
        exact hQ _
      ·
        show zq (zb_Numbers_get_21 σ) Q
        unfold zb_Numbers_get_21
        exact hQ _

theorem q_b_Outcomes_slotOf_19 {N : Nat} (hN : zBig ≤ N) {σ0 : zS} {σ : zS} {v1 : Int32} {Q : (Int32) → Prop} (hJ : JX σ0 σ) (hQ : ∀ r, (0 ≤ r ∧ r < 8192) → Q r) : ∀ (n : Nat) (v3 : Int32) (v4 : Int32), ((0 ≤ v3 ∧ v3 < 8192) ∧ 0 ≤ v4) → zmu v4 < n → zq (zb_Outcomes_slotOf_19 N n σ v1 v3 v4) Q := by
  intro n
  induction n with
  | zero => intro _ _ _ hn; exact absurd hn (Nat.not_lt_zero _)
  | succ n ih =>
    intro v3 v4 hI hn
    rw [zb_Outcomes_slotOf_19]
    refine zq_ite (fun c1 => ?_) fun c1 => ?_
    ·
      exact hQ _ (by (first | with_reducible assumption | omega | grind))
    ·
      refine zq_chk (by (first | with_reducible assumption | omega | grind)) fun c2 => ?_
      refine zq_ite (fun c3 => ?_) fun c3 => ?_
      ·
        exact hQ _ (by (first | with_reducible assumption | omega | grind))
      ·
        refine zq_chk (by (first | with_reducible assumption | omega | grind)) fun c4 => ?_
        refine zq_bind (q_f_Numbers_get hJ fun r5 => ?_)
        refine zq_ite (fun c5 => ?_) fun c5 => ?_
        ·
          exact ih ((v3 + 1) &&& 8191) (v4 + 1) (by have := z_and (v3 + 1) 8191 (by decide); have := z_and (v3 + 1) 8191 (by decide); (first | with_reducible assumption | omega | grind)) (by first | exact zmu_up (by assumption) hn | exact zmu_up (b := 2147483647) (by (first | with_reducible assumption | omega | grind)) hn | (first | with_reducible assumption | omega | grind))
        ·
          exact hQ _ (by (first | with_reducible assumption | omega | grind))

theorem q_f_Outcomes_slotOf {N : Nat} (hN : zBig ≤ N) {σ0 : zS} {σ : zS} {x1 : Int32} {Q : (Int32) → Prop} (hJ : JX σ0 σ) (hQ : ∀ r, (0 ≤ r ∧ r < 8192) → Q r) : zq (zf_Outcomes_slotOf N σ x1) Q := by
  unfold zf_Outcomes_slotOf
  exact q_b_Outcomes_slotOf_19 hN hJ hQ N (((x1 * (-1640531535)) ^^^ (zJ_ushr (x1 * (-1640531535)) 15)) &&& 8191) 0 (by have := z_and ((x1 * (-1640531535)) ^^^ (zJ_ushr (x1 * (-1640531535)) 15)) 8191 (by decide); have := z_and ((x1 * (-1640531535)) ^^^ (zJ_ushr (x1 * (-1640531535)) 15)) 8191 (by decide); (first | with_reducible assumption | omega | grind)) (by exact zmu_lt hN _)

theorem q_f_Numbers_add_c2 {σ0 : zS} {σ : zS} {x1 : Int32} {Q : (zS) → Prop} (hJ : JX σ0 σ) (hQ : ∀ r, JX σ0 r → Q r) : zq (zf_Numbers_add_c2 σ x1) Q := by
  unfold zf_Numbers_add_c2
  refine zq_ite (fun c1 => ?_) fun c1 => ?_
  ·
    exact hQ _ hJ
  ·
    refine zq_ite (fun c2 => ?_) fun c2 => ?_
    ·
      exact hQ _ hJ
    ·
      refine zq_chk (by (first | with_reducible assumption | omega | grind)) fun c3 => ?_
      exact hQ _ (JX.up (by decide) (JX.up (by decide) hJ))
theorem q_f_Numbers_add_c3 {σ0 : zS} {σ : zS} {x1 : Int32} {Q : (zS) → Prop} (hJ : JX σ0 σ) (hQ : ∀ r, JX σ0 r → Q r) : zq (zf_Numbers_add_c3 σ x1) Q := by
  unfold zf_Numbers_add_c3
  refine zq_ite (fun c1 => ?_) fun c1 => ?_
  ·
    exact hQ _ hJ
  ·
    refine zq_ite (fun c2 => ?_) fun c2 => ?_
    ·
      exact hQ _ hJ
    ·
      refine zq_chk (by (first | with_reducible assumption | omega | grind)) fun c3 => ?_
      exact hQ _ (JX.up (by decide) (JX.up (by decide) hJ))

theorem q_f_Outcomes_note {N : Nat} (hN : zBig ≤ N) {σ0 : zS} {σ : zS} {x1 : Int32} {x2 : Int32} {Q : (zS) → Prop} (hJ : JX σ0 σ) (hQ : ∀ r, JX σ0 r → Q r) : zq (zf_Outcomes_note N σ x1 x2) Q := by
  unfold zf_Outcomes_note
  refine zq_bind (q_f_Outcomes_slotOf hN hJ fun r1 pr1 => ?_)
  refine zq_chk (by (first | with_reducible assumption | omega | grind)) fun c1 => ?_
  refine zq_ite (fun c2 => ?_) fun c2 => ?_
  ·
    exact hQ _ hJ
  ·
    refine zq_bind (q_f_Numbers_add_c2 hJ fun r4 jr4 => ?_)
    refine zq_bind (q_f_Numbers_add_c3 jr4 fun r5 jr5 => ?_)
    refine zq_chk (by (first | with_reducible assumption | omega | grind)) fun c3 => ?_
    exact hQ _ (JX.up (by decide) jr5)

theorem q_b_Outcomes_gather_24 {N : Nat} (hN : zBig ≤ N) {σ0 : zS} {Q : (zS) → Prop} (hQ : ∀ r, JX σ0 r → Q r) : ∀ (n : Nat) (σ : zS) (v2 : Int32), JX σ0 σ → (0 ≤ v2) → zmu v2 < n → zq (zb_Outcomes_gather_24 N n σ v2) Q := by
  intro n
  induction n with
  | zero => intro _ _ _ _ hn; exact absurd hn (Nat.not_lt_zero _)
  | succ n ih =>
    intro σ v2 hJ hI hn
    rw [zb_Outcomes_gather_24]
    refine zq_ite (fun c1 => ?_) fun c1 => ?_
    ·
      exact hQ _ hJ
    ·
      refine zq_bind (q_f_Space_isLast hJ fun r5 => ?_)
      refine zq_ite (fun c2 => ?_) fun c2 => ?_
      ·
        show zq (zb_Outcomes_gather_57 (zb_Outcomes_gather_24 N n) N σ v2) Q
        unfold zb_Outcomes_gather_57
        exact ih σ (v2 + 1) hJ (by (first | with_reducible assumption | omega | grind)) (by first | exact zmu_up (by assumption) hn | exact zmu_up (b := 2147483647) (by (first | with_reducible assumption | omega | grind)) hn | (first | with_reducible assumption | omega | grind))
      ·
        refine zq_bind (q_f_Space_load hN hJ fun r7 jr7 => ?_)
        refine zq_bind (q_f_Machine_outcome hN jr7 fun r8 => ?_)
        refine zq_bind (q_f_Outcomes_note hN jr7 fun r9 jr9 => ?_)
        show zq (zb_Outcomes_gather_57 (zb_Outcomes_gather_24 N n) N r9 v2) Q
        unfold zb_Outcomes_gather_57
        exact ih r9 (v2 + 1) jr9 (by (first | with_reducible assumption | omega | grind)) (by first | exact zmu_up (by assumption) hn | exact zmu_up (b := 2147483647) (by (first | with_reducible assumption | omega | grind)) hn | (first | with_reducible assumption | omega | grind))

theorem q_f_Outcomes_gather {N : Nat} (hN : zBig ≤ N) {σ0 : zS} {σ : zS} {Q : (zS) → Prop} (hJ : JX σ0 σ) (hQ : ∀ r, JX σ0 r → Q r) : zq (zf_Outcomes_gather N σ) Q := by
  unfold zf_Outcomes_gather
  refine zq_bind (q_f_Numbers_clear_c5 hJ fun r1 jr1 => ?_)
  refine zq_bind (q_f_Numbers_clear_c6 jr1 fun r2 jr2 => ?_)
  refine zq_bind (q_f_Arrays_fill_c6 hN jr2 fun r3 jr3 => ?_)
  exact q_b_Outcomes_gather_24 hN hQ N r3 0 jr3 (by (first | with_reducible assumption | omega | grind)) (by exact zmu_lt hN _)

theorem q_b_Program_clash_81 {σ0 : zS} {σ : zS} {v2 : Int32} {v3 : Int32} {v4 : Int32} {s0 : Int32} {Q : (Int32) → Prop} (hJ : JX σ0 σ) (hI : 0 ≤ v2 ∧ v2 < 96) (hQ : ∀ r, Q r) : zq (zb_Program_clash_81 σ v2 v3 v4 s0) Q := by
  unfold zb_Program_clash_81
  refine zq_ite (fun c1 => ?_) fun c1 => ?_
  ·
    exact hQ _
  ·
    refine zq_ite (fun c2 => ?_) fun c2 => ?_
    ·
      exact hQ _
    ·
      refine zq_chk (by (first | with_reducible assumption | omega | grind)) fun c3 => ?_
      refine zq_ite (fun c4 => ?_) fun c4 => ?_
      ·
        exact hQ _
      ·
        refine zq_ite (fun c5 => ?_) fun c5 => ?_
        ·
          exact hQ _
        ·
          exact hQ _

theorem q_f_Program_clash {σ0 : zS} {σ : zS} {x1 : Int32} {x2 : Int32} {Q : (Int32) → Prop} (hJ : JX σ0 σ) (hQ : ∀ r, Q r) : zq (zf_Program_clash σ x1 x2) Q := by
  unfold zf_Program_clash
  refine zq_ite (fun c1 => ?_) fun c1 => ?_
  ·
    exact hQ _
  ·
    refine zq_ite (fun c2 => ?_) fun c2 => ?_
    ·
      exact hQ _
    ·
      refine zq_ite (fun c3 => ?_) fun c3 => ?_
      ·
        exact hQ _
      ·
        refine zq_ite (fun c4 => ?_) fun c4 => ?_
        ·
          refine zq_chk (by (first | with_reducible assumption | omega | grind)) fun c5 => ?_
          refine zq_chk (by (first | with_reducible assumption | omega | grind)) fun c6 => ?_
          refine zq_ite (fun c7 => ?_) fun c7 => ?_
          ·
            show zq (zb_Program_clash_53 σ x1 x2 (σ 8 x1.toNatClampNeg)) Q
            unfold zb_Program_clash_53
            show zq (zb_Program_clash_54 σ x1 x2 (σ 8 x1.toNatClampNeg) 0) Q
            unfold zb_Program_clash_54
            refine zq_chk (by (first | with_reducible assumption | omega | grind)) fun c8 => ?_
            refine zq_ite (fun c9 => ?_) fun c9 => ?_
            ·
              show zq (zb_Program_clash_76 σ x2 (σ 8 x1.toNatClampNeg) 0) Q
              unfold zb_Program_clash_76
              exact q_b_Program_clash_81 hJ (by (first | with_reducible assumption | omega | grind)) hQ
            ·
              refine zq_chk (by (first | with_reducible assumption | omega | grind)) fun c10 => ?_
              refine zq_ite (fun c11 => ?_) fun c11 => ?_
              ·
                exact q_b_Program_clash_81 hJ (by (first | with_reducible assumption | omega | grind)) hQ
              ·
                show zq (zb_Program_clash_76 σ x2 (σ 8 x1.toNatClampNeg) 0) Q
                unfold zb_Program_clash_76
                exact q_b_Program_clash_81 hJ (by (first | with_reducible assumption | omega | grind)) hQ
          ·
            refine zq_chk (by (first | with_reducible assumption | omega | grind)) fun c12 => ?_
            refine zq_ite (fun c13 => ?_) fun c13 => ?_
            ·
              show zq (zb_Program_clash_53 σ x1 x2 (σ 8 x1.toNatClampNeg)) Q
              unfold zb_Program_clash_53
              show zq (zb_Program_clash_54 σ x1 x2 (σ 8 x1.toNatClampNeg) 0) Q
              unfold zb_Program_clash_54
              refine zq_chk (by (first | with_reducible assumption | omega | grind)) fun c14 => ?_
              refine zq_ite (fun c15 => ?_) fun c15 => ?_
              ·
                show zq (zb_Program_clash_76 σ x2 (σ 8 x1.toNatClampNeg) 0) Q
                unfold zb_Program_clash_76
                exact q_b_Program_clash_81 hJ (by (first | with_reducible assumption | omega | grind)) hQ
              ·
                refine zq_chk (by (first | with_reducible assumption | omega | grind)) fun c16 => ?_
                refine zq_ite (fun c17 => ?_) fun c17 => ?_
                ·
                  exact q_b_Program_clash_81 hJ (by (first | with_reducible assumption | omega | grind)) hQ
                ·
                  show zq (zb_Program_clash_76 σ x2 (σ 8 x1.toNatClampNeg) 0) Q
                  unfold zb_Program_clash_76
                  exact q_b_Program_clash_81 hJ (by (first | with_reducible assumption | omega | grind)) hQ
            ·
              show zq (zb_Program_clash_54 σ x1 x2 (σ 8 x1.toNatClampNeg) 1) Q
              unfold zb_Program_clash_54
              refine zq_chk (by (first | with_reducible assumption | omega | grind)) fun c18 => ?_
              refine zq_ite (fun c19 => ?_) fun c19 => ?_
              ·
                show zq (zb_Program_clash_76 σ x2 (σ 8 x1.toNatClampNeg) 1) Q
                unfold zb_Program_clash_76
                exact q_b_Program_clash_81 hJ (by (first | with_reducible assumption | omega | grind)) hQ
              ·
                refine zq_chk (by (first | with_reducible assumption | omega | grind)) fun c20 => ?_
                refine zq_ite (fun c21 => ?_) fun c21 => ?_
                ·
                  exact q_b_Program_clash_81 hJ (by (first | with_reducible assumption | omega | grind)) hQ
                ·
                  show zq (zb_Program_clash_76 σ x2 (σ 8 x1.toNatClampNeg) 1) Q
                  unfold zb_Program_clash_76
                  exact q_b_Program_clash_81 hJ (by (first | with_reducible assumption | omega | grind)) hQ
        ·
          exact hQ _

theorem q_f_Findings_noteRace {σ0 : zS} {σ : zS} {x1 : Int32} {x2 : Int32} {x3 : Int32} {Q : (zS) → Prop} (hJ : JX σ0 σ) (hQ : ∀ r, JX σ0 r → Q r) : zq (zf_Findings_noteRace σ x1 x2 x3) Q := by
  unfold zf_Findings_noteRace
  refine zq_bind (q_f_Program_clash hJ fun r1 => ?_)
  refine zq_ite (fun c1 => ?_) fun c1 => ?_
  ·
    exact hQ _ hJ
  ·
    refine zq_ite (fun c2 => ?_) fun c2 => ?_
    ·
      exact hQ _ hJ
    ·
      refine zq_ite (fun c3 => ?_) fun c3 => ?_
      ·
        exact hQ _ hJ
      ·
        refine zq_chk (by (first | with_reducible assumption | omega | grind)) fun c4 => ?_
        refine zq_ite (fun c5 => ?_) fun c5 => ?_
        ·
          exact hQ _ hJ
        ·
          refine zq_chk (by (first | with_reducible assumption | omega | grind)) fun c6 => ?_
          exact hQ _ (JX.up (by decide) hJ)

theorem q_b_Findings_noteRaces_17 {N : Nat} (hN : zBig ≤ N) {k2 : zS → Int32 → Int32 → Option (zS)} {σ0 : zS} {v1 : Int32} {v2 : Int32} {Q : (zS) → Prop} (hk2_0 : ∀ (y0 : zS), JX σ0 y0 → zq (k2 y0 v1 (v2 + 1)) Q) : ∀ (n : Nat) (σ : zS) (v3 : Int32), JX σ0 σ → zmu v3 < n → zq (zb_Findings_noteRaces_17 k2 N n σ v1 v2 v3) Q := by
  intro n
  induction n with
  | zero => intro _ _ _ hn; exact absurd hn (Nat.not_lt_zero _)
  | succ n ih =>
    intro σ v3 hJ hn
    rw [zb_Findings_noteRaces_17]
    refine zq_ite (fun c1 => ?_) fun c1 => ?_
    ·
      exact hk2_0 σ hJ
    ·
      refine zq_bind (q_f_Machine_howOf hJ fun r3 => ?_)
      refine zq_ite (fun c2 => ?_) fun c2 => ?_
      ·
        show zq (zb_Findings_noteRaces_83 (zb_Findings_noteRaces_17 k2 N n) N σ v1 v2 v3) Q
        unfold zb_Findings_noteRaces_83
        exact ih σ (v3 + 1) hJ (by first | exact zmu_up (by assumption) hn | exact zmu_up (b := 2147483647) (by (first | with_reducible assumption | omega | grind)) hn | (first | with_reducible assumption | omega | grind))
      ·
        refine zq_bind (q_f_Machine_howOf hJ fun r5 => ?_)
        refine zq_ite (fun c3 => ?_) fun c3 => ?_
        ·
          show zq (zb_Findings_noteRaces_83 (zb_Findings_noteRaces_17 k2 N n) N σ v1 v2 v3) Q
          unfold zb_Findings_noteRaces_83
          exact ih σ (v3 + 1) hJ (by first | exact zmu_up (by assumption) hn | exact zmu_up (b := 2147483647) (by (first | with_reducible assumption | omega | grind)) hn | (first | with_reducible assumption | omega | grind))
        ·
          refine zq_bind (q_f_Machine_stepOf hJ fun r7 => ?_)
          refine zq_bind (q_f_Machine_stepOf hJ fun r8 => ?_)
          refine zq_bind (q_f_Findings_noteRace hJ fun r9 jr9 => ?_)
          show zq (zb_Findings_noteRaces_83 (zb_Findings_noteRaces_17 k2 N n) N r9 v1 v2 v3) Q
          unfold zb_Findings_noteRaces_83
          exact ih r9 (v3 + 1) jr9 (by first | exact zmu_up (by assumption) hn | exact zmu_up (b := 2147483647) (by (first | with_reducible assumption | omega | grind)) hn | (first | with_reducible assumption | omega | grind))

theorem q_b_Findings_noteRaces_2 {N : Nat} (hN : zBig ≤ N) {σ0 : zS} {v1 : Int32} {Q : (zS) → Prop} (hQ : ∀ r, JX σ0 r → Q r) : ∀ (n : Nat) (σ : zS) (v2 : Int32), JX σ0 σ → (0 ≤ v2) → zmu v2 < n → zq (zb_Findings_noteRaces_2 N n σ v1 v2) Q := by
  intro n
  induction n with
  | zero => intro _ _ _ _ hn; exact absurd hn (Nat.not_lt_zero _)
  | succ n ih =>
    intro σ v2 hJ hI hn
    rw [zb_Findings_noteRaces_2]
    refine zq_ite (fun c1 => ?_) fun c1 => ?_
    ·
      exact hQ _ hJ
    ·
      exact q_b_Findings_noteRaces_17 hN (fun y0 jy => ih y0 (v2 + 1) jy (by (first | with_reducible assumption | omega | grind)) (by first | exact zmu_up (by assumption) hn | exact zmu_up (b := 2147483647) (by (first | with_reducible assumption | omega | grind)) hn | (first | with_reducible assumption | omega | grind))) N σ (v2 + 1) hJ (by exact zmu_lt hN _)

theorem q_f_Findings_noteRaces {N : Nat} (hN : zBig ≤ N) {σ0 : zS} {σ : zS} {x1 : Int32} {Q : (zS) → Prop} (hJ : JX σ0 σ) (hQ : ∀ r, JX σ0 r → Q r) : zq (zf_Findings_noteRaces N σ x1) Q := by
  unfold zf_Findings_noteRaces
  exact q_b_Findings_noteRaces_2 hN hQ N σ 0 hJ (by (first | with_reducible assumption | omega | grind)) (by exact zmu_lt hN _)

theorem q_f_Numbers_add_c4 {σ0 : zS} {σ : zS} {x1 : Int32} {Q : (zS) → Prop} (hJ : JX σ0 σ) (hQ : ∀ r, JX σ0 r → Q r) : zq (zf_Numbers_add_c4 σ x1) Q := by
  unfold zf_Numbers_add_c4
  refine zq_ite (fun c1 => ?_) fun c1 => ?_
  ·
    exact hQ _ hJ
  ·
    refine zq_ite (fun c2 => ?_) fun c2 => ?_
    ·
      exact hQ _ hJ
    ·
      refine zq_chk (by (first | with_reducible assumption | omega | grind)) fun c3 => ?_
      exact hQ _ (JX.up (by decide) (JX.up (by decide) hJ))

theorem q_f_Numbers_add_c5 {σ0 : zS} {σ : zS} {x1 : Int32} {Q : (zS) → Prop} (hJ : JX σ0 σ) (hQ : ∀ r, JX σ0 r → Q r) : zq (zf_Numbers_add_c5 σ x1) Q := by
  unfold zf_Numbers_add_c5
  refine zq_ite (fun c1 => ?_) fun c1 => ?_
  ·
    exact hQ _ hJ
  ·
    refine zq_ite (fun c2 => ?_) fun c2 => ?_
    ·
      exact hQ _ hJ
    ·
      refine zq_chk (by (first | with_reducible assumption | omega | grind)) fun c3 => ?_
      exact hQ _ (JX.up (by decide) (JX.up (by decide) hJ))

theorem q_f_Numbers_add_c6 {σ0 : zS} {σ : zS} {x1 : Int32} {Q : (zS) → Prop} (hJ : JX σ0 σ) (hQ : ∀ r, JX σ0 r → Q r) : zq (zf_Numbers_add_c6 σ x1) Q := by
  unfold zf_Numbers_add_c6
  refine zq_ite (fun c1 => ?_) fun c1 => ?_
  ·
    exact hQ _ hJ
  ·
    refine zq_ite (fun c2 => ?_) fun c2 => ?_
    ·
      exact hQ _ hJ
    ·
      refine zq_chk (by (first | with_reducible assumption | omega | grind)) fun c3 => ?_
      exact hQ _ (JX.up (by decide) (JX.up (by decide) hJ))

theorem q_b_Findings_gather_62 {N : Nat} (hN : zBig ≤ N) {k31 : zS → Int32 → Option (zS)} {σ0 : zS} {σ : zS} {v2 : Int32} {Q : (zS) → Prop} (hJ : JX σ0 σ) (hk31_0 : ∀ (y0 : zS), JX σ0 y0 → zq (k31 y0 (v2 + 1)) Q) : zq (zb_Findings_gather_62 k31 N σ v2) Q := by
  unfold zb_Findings_gather_62
  refine zq_bind (q_f_Space_isLast hJ fun r11 => ?_)
  refine zq_ite (fun c1 => ?_) fun c1 => ?_
  ·
    show zq (zb_Findings_gather_97 k31 N σ v2) Q
    unfold zb_Findings_gather_97
    refine zq_bind (q_f_Findings_noteRaces hN hJ fun r13 jr13 => ?_)
    exact hk31_0 r13 jr13
  ·
    refine zq_bind (q_f_Machine_isOver hN hJ fun r14 => ?_)
    refine zq_ite (fun c2 => ?_) fun c2 => ?_
    ·
      show zq (zb_Findings_gather_91 k31 N σ v2) Q
      unfold zb_Findings_gather_91
      refine zq_bind (q_f_Numbers_add_c4 hJ fun r16 jr16 => ?_)
      show zq (zb_Findings_gather_97 k31 N r16 v2) Q
      unfold zb_Findings_gather_97
      refine zq_bind (q_f_Findings_noteRaces hN jr16 fun r13 jr13 => ?_)
      exact hk31_0 r13 jr13
    ·
      show zq (zb_Findings_gather_91_1 k31 N σ v2) Q
      unfold zb_Findings_gather_91_1
      refine zq_bind (q_f_Numbers_add_c5 hJ fun r17 jr17 => ?_)
      show zq (zb_Findings_gather_97 k31 N r17 v2) Q
      unfold zb_Findings_gather_97
      refine zq_bind (q_f_Findings_noteRaces hN jr17 fun r13 jr13 => ?_)
      exact hk31_0 r13 jr13

theorem q_b_Findings_gather_31 {N : Nat} (hN : zBig ≤ N) {σ0 : zS} {Q : (zS) → Prop} (hQ : ∀ r, JX σ0 r → Q r) : ∀ (n : Nat) (σ : zS) (v2 : Int32), JX σ0 σ → (0 ≤ v2) → zmu v2 < n → zq (zb_Findings_gather_31 N n σ v2) Q := by
  intro n
  induction n with
  | zero => intro _ _ _ _ hn; exact absurd hn (Nat.not_lt_zero _)
  | succ n ih =>
    intro σ v2 hJ hI hn
    rw [zb_Findings_gather_31]
    refine zq_ite (fun c1 => ?_) fun c1 => ?_
    ·
      refine zq_bind (q_f_Findings_listRaces hN hJ fun r6 jr6 => ?_)
      refine zq_bind (q_f_Outcomes_gather hN jr6 fun r7 jr7 => ?_)
      exact hQ _ jr7
    ·
      refine zq_bind (q_f_Space_load hN hJ fun r8 jr8 => ?_)
      refine zq_bind (q_f_Machine_failed hN jr8 fun r9 => ?_)
      refine zq_ite (fun c2 => ?_) fun c2 => ?_
      ·
        exact q_b_Findings_gather_62 hN jr8 (fun y0 jy => ih y0 (v2 + 1) jy (by (first | with_reducible assumption | omega | grind)) (by first | exact zmu_up (by assumption) hn | exact zmu_up (b := 2147483647) (by (first | with_reducible assumption | omega | grind)) hn | (first | with_reducible assumption | omega | grind)))
      ·
        refine zq_bind (q_f_Numbers_add_c6 jr8 fun r18 jr18 => ?_)
        exact q_b_Findings_gather_62 hN jr18 (fun y0 jy => ih y0 (v2 + 1) jy (by (first | with_reducible assumption | omega | grind)) (by first | exact zmu_up (by assumption) hn | exact zmu_up (b := 2147483647) (by (first | with_reducible assumption | omega | grind)) hn | (first | with_reducible assumption | omega | grind)))

theorem q_f_Findings_gather {N : Nat} (hN : zBig ≤ N) {σ0 : zS} {σ : zS} {Q : (zS) → Prop} (hJ : JX σ0 σ) (hQ : ∀ r, JX σ0 r → Q r) : zq (zf_Findings_gather N σ) Q := by
  unfold zf_Findings_gather
  refine zq_bind (q_f_Numbers_clear hJ fun r1 jr1 => ?_)
  refine zq_bind (q_f_Numbers_clear_c1 jr1 fun r2 jr2 => ?_)
  refine zq_bind (q_f_Numbers_clear_c2 jr2 fun r3 jr3 => ?_)
  refine zq_bind (q_f_Arrays_fill_c5 hN jr3 fun r4 jr4 => ?_)
  exact q_b_Findings_gather_31 hN hQ N r4 0 jr4 (by (first | with_reducible assumption | omega | grind)) (by exact zmu_lt hN _)

theorem q_f_X_run {N : Nat} (hN : zBig ≤ N) {σ0 : zS} {σ : zS} {Q : (Int32 × zS) → Prop} (hJ : JX σ0 σ) (hQ : ∀ r, JX σ0 r.2 → Q r) : zq (zf_X_run N σ) Q := by
  unfold zf_X_run
  refine zq_ite (fun c1 => ?_) fun c1 => ?_
  ·
    refine zq_ite (fun c2 => ?_) fun c2 => ?_
    ·
      show zq (zb_X_run_57 N (zx_up σ 2 16 (-1))) Q
      unfold zb_X_run_57
      refine zq_ite (fun c3 => ?_) fun c3 => ?_
      ·
        exact hQ _ (JX.up2 (by decide) hJ)
      ·
        exact hQ _ (JX.up2 (by decide) hJ)
    ·
      refine zq_bind (q_f_Space_explore hN (JX.up2 (by decide) (JX.up2 (by decide) hJ)) fun r4 jr4 pr4 => ?_)
      refine zq_chk (by (first | with_reducible assumption | omega | grind)) fun c4 => ?_
      refine zq_ite (fun c5 => ?_) fun c5 => ?_
      ·
        show zq (zb_X_run_57 N (zx_up r4.2 2 15 r4.1)) Q
        unfold zb_X_run_57
        refine zq_ite (fun c6 => ?_) fun c6 => ?_
        ·
          exact hQ _ (JX.up2 (by decide) jr4)
        ·
          exact hQ _ (JX.up2 (by decide) jr4)
      ·
        refine zq_bind (q_f_Findings_gather hN (JX.up2 (by decide) jr4) fun r7 jr7 => ?_)
        show zq (zb_X_run_57 N r7) Q
        unfold zb_X_run_57
        refine zq_ite (fun c7 => ?_) fun c7 => ?_
        ·
          exact hQ _ jr7
        ·
          exact hQ _ jr7
  ·
    exact hQ _ hJ

theorem q_f_X_found {σ0 : zS} {σ : zS} {x1 : Int32} {Q : (Int32) → Prop} (hJ : JX σ0 σ) (hQ : ∀ r, Q r) : zq (zf_X_found σ x1) Q := by
  unfold zf_X_found
  refine zq_ite (fun c1 => ?_) fun c1 => ?_
  ·
    refine zq_ite (fun c2 => ?_) fun c2 => ?_
    ·
      exact hQ _
    ·
      refine zq_ite (fun c3 => ?_) fun c3 => ?_
      ·
        exact hQ _
      ·
        refine zq_ite (fun c4 => ?_) fun c4 => ?_
        ·
          exact hQ _
        ·
          refine zq_ite (fun c5 => ?_) fun c5 => ?_
          ·
            exact hQ _
          ·
            refine zq_ite (fun c6 => ?_) fun c6 => ?_
            ·
              exact hQ _
            ·
              exact hQ _
  ·
    exact hQ _

theorem q_f_Numbers_get_c1 {σ0 : zS} {σ : zS} {x1 : Int32} {Q : (Int32) → Prop} (hJ : JX σ0 σ) (hQ : ∀ r, Q r) : zq (zf_Numbers_get_c1 σ x1) Q := by
  unfold zf_Numbers_get_c1
  refine zq_ite (fun c1 => ?_) fun c1 => ?_
  ·
    show zq (zb_Numbers_get_c1_21 σ) Q
    unfold zb_Numbers_get_c1_21
    exact hQ _
  ·
    refine zq_ite (fun c2 => ?_) fun c2 => ?_
    ·
      show zq (zb_Numbers_get_c1_21 σ) Q
      unfold zb_Numbers_get_c1_21
      exact hQ _
    ·
      refine zq_ite (fun c3 => ?_) fun c3 => ?_
      ·
        refine zq_chk (by (first | with_reducible assumption | omega | grind)) fun c4 => ?_
        exact hQ _
      ·
        show zq (zb_Numbers_get_c1_21 σ) Q
        unfold zb_Numbers_get_c1_21
        exact hQ _

theorem q_f_Numbers_get_c2 {σ0 : zS} {σ : zS} {x1 : Int32} {Q : (Int32) → Prop} (hJ : JX σ0 σ) (hQ : ∀ r, Q r) : zq (zf_Numbers_get_c2 σ x1) Q := by
  unfold zf_Numbers_get_c2
  refine zq_ite (fun c1 => ?_) fun c1 => ?_
  ·
    show zq (zb_Numbers_get_c2_21 σ) Q
    unfold zb_Numbers_get_c2_21
    exact hQ _
  ·
    refine zq_ite (fun c2 => ?_) fun c2 => ?_
    ·
      show zq (zb_Numbers_get_c2_21 σ) Q
      unfold zb_Numbers_get_c2_21
      exact hQ _
    ·
      refine zq_ite (fun c3 => ?_) fun c3 => ?_
      ·
        refine zq_chk (by (first | with_reducible assumption | omega | grind)) fun c4 => ?_
        exact hQ _
      ·
        show zq (zb_Numbers_get_c2_21 σ) Q
        unfold zb_Numbers_get_c2_21
        exact hQ _

theorem q_f_Numbers_get_c3 {σ0 : zS} {σ : zS} {x1 : Int32} {Q : (Int32) → Prop} (hJ : JX σ0 σ) (hQ : ∀ r, Q r) : zq (zf_Numbers_get_c3 σ x1) Q := by
  unfold zf_Numbers_get_c3
  refine zq_ite (fun c1 => ?_) fun c1 => ?_
  ·
    show zq (zb_Numbers_get_c3_21 σ) Q
    unfold zb_Numbers_get_c3_21
    exact hQ _
  ·
    refine zq_ite (fun c2 => ?_) fun c2 => ?_
    ·
      show zq (zb_Numbers_get_c3_21 σ) Q
      unfold zb_Numbers_get_c3_21
      exact hQ _
    ·
      refine zq_ite (fun c3 => ?_) fun c3 => ?_
      ·
        refine zq_chk (by (first | with_reducible assumption | omega | grind)) fun c4 => ?_
        exact hQ _
      ·
        show zq (zb_Numbers_get_c3_21 σ) Q
        unfold zb_Numbers_get_c3_21
        exact hQ _

theorem q_f_Numbers_get_c4 {σ0 : zS} {σ : zS} {x1 : Int32} {Q : (Int32) → Prop} (hJ : JX σ0 σ) (hQ : ∀ r, Q r) : zq (zf_Numbers_get_c4 σ x1) Q := by
  unfold zf_Numbers_get_c4
  refine zq_ite (fun c1 => ?_) fun c1 => ?_
  ·
    show zq (zb_Numbers_get_c4_21 σ) Q
    unfold zb_Numbers_get_c4_21
    exact hQ _
  ·
    refine zq_ite (fun c2 => ?_) fun c2 => ?_
    ·
      show zq (zb_Numbers_get_c4_21 σ) Q
      unfold zb_Numbers_get_c4_21
      exact hQ _
    ·
      refine zq_ite (fun c3 => ?_) fun c3 => ?_
      ·
        refine zq_chk (by (first | with_reducible assumption | omega | grind)) fun c4 => ?_
        exact hQ _
      ·
        show zq (zb_Numbers_get_c4_21 σ) Q
        unfold zb_Numbers_get_c4_21
        exact hQ _

theorem q_f_Numbers_get_c5 {σ0 : zS} {σ : zS} {x1 : Int32} {Q : (Int32) → Prop} (hJ : JX σ0 σ) (hQ : ∀ r, Q r) : zq (zf_Numbers_get_c5 σ x1) Q := by
  unfold zf_Numbers_get_c5
  refine zq_ite (fun c1 => ?_) fun c1 => ?_
  ·
    show zq (zb_Numbers_get_c5_21 σ) Q
    unfold zb_Numbers_get_c5_21
    exact hQ _
  ·
    refine zq_ite (fun c2 => ?_) fun c2 => ?_
    ·
      show zq (zb_Numbers_get_c5_21 σ) Q
      unfold zb_Numbers_get_c5_21
      exact hQ _
    ·
      refine zq_ite (fun c3 => ?_) fun c3 => ?_
      ·
        refine zq_chk (by (first | with_reducible assumption | omega | grind)) fun c4 => ?_
        exact hQ _
      ·
        show zq (zb_Numbers_get_c5_21 σ) Q
        unfold zb_Numbers_get_c5_21
        exact hQ _

theorem q_f_X_shownState {σ0 : zS} {σ : zS} {x1 : Int32} {x2 : Int32} {Q : (Int32) → Prop} (hJ : JX σ0 σ) (hQ : ∀ r, Q r) : zq (zf_X_shownState σ x1 x2) Q := by
  unfold zf_X_shownState
  refine zq_ite (fun c1 => ?_) fun c1 => ?_
  ·
    refine zq_bind (q_f_Numbers_get_c5 hJ fun r10 => ?_)
    exact hQ _
  ·
    refine zq_ite (fun c2 => ?_) fun c2 => ?_
    ·
      refine zq_bind (q_f_Numbers_get_c4 hJ fun r9 => ?_)
      exact hQ _
    ·
      refine zq_ite (fun c3 => ?_) fun c3 => ?_
      ·
        refine zq_bind (q_f_Numbers_get_c3 hJ fun r8 => ?_)
        exact hQ _
      ·
        refine zq_ite (fun c4 => ?_) fun c4 => ?_
        ·
          refine zq_bind (q_f_Numbers_get_c2 hJ fun r7 => ?_)
          exact hQ _
        ·
          refine zq_ite (fun c5 => ?_) fun c5 => ?_
          ·
            refine zq_bind (q_f_Numbers_get_c1 hJ fun r6 => ?_)
            exact hQ _
          ·
            exact hQ _

theorem q_b_Space_wayTo_51 {N : Nat} (hN : zBig ≤ N) {σ0 : zS} {v3 : Int32} {Q : (Int32 × zS) → Prop} (hQ : ∀ r, JX σ0 r.2 → Q r) : ∀ (n : Nat) (σ : zS) (v4 : Int32) (v5 : Int32), JX σ0 σ → zmd v4 < n → zq (zb_Space_wayTo_51 N n σ v3 v4 v5) Q := by
  intro n
  induction n with
  | zero => intro _ _ _ _ hn; exact absurd hn (Nat.not_lt_zero _)
  | succ n ih =>
    intro σ v4 v5 hJ hn
    rw [zb_Space_wayTo_51]
    refine zq_ite (fun c1 => ?_) fun c1 => ?_
    ·
      exact hQ _ hJ
    ·
      refine zq_bind (q_f_Space_has hJ fun r3 pr3 => ?_)
      refine zq_ite (fun c2 => ?_) fun c2 => ?_
      ·
        exact hQ _ hJ
      ·
        refine zq_ite (fun c3 => ?_) fun c3 => ?_
        ·
          exact hQ _ hJ
        ·
          refine zq_ite (fun c4 => ?_) fun c4 => ?_
          ·
            show zq (zb_Space_wayTo_90 (zb_Space_wayTo_51 N n) N σ v3 v4 v5) Q
            unfold zb_Space_wayTo_90
            refine zq_chk (by (first | with_reducible assumption | omega | grind)) fun c5 => ?_
            exact ih σ (v4 + (-1)) ((σ 43 v5.toNatClampNeg) / 4) hJ (by first | exact zmd_dn (by assumption) hn | exact zmd_dn (by (first | with_reducible assumption | omega | grind)) hn | (first | with_reducible assumption | omega | grind))
          ·
            refine zq_chk (by (first | with_reducible assumption | omega | grind)) fun c6 => ?_
            refine zq_chk (by (first | with_reducible assumption | omega | grind)) fun c7 => ?_
            show zq (zb_Space_wayTo_90 (zb_Space_wayTo_51 N n) N (zx_up σ 81 v4.toNatClampNeg (zJ_rem (σ 43 v5.toNatClampNeg) 4)) v3 v4 v5) Q
            unfold zb_Space_wayTo_90
            refine zq_chk (by (first | with_reducible assumption | omega | grind)) fun c8 => ?_
            exact ih (zx_up σ 81 v4.toNatClampNeg (zJ_rem (σ 43 v5.toNatClampNeg) 4)) (v4 + (-1)) (((zx_up σ 81 v4.toNatClampNeg (zJ_rem (σ 43 v5.toNatClampNeg) 4)) 43 v5.toNatClampNeg) / 4) (JX.up (by decide) hJ) (by first | exact zmd_dn (by assumption) hn | exact zmd_dn (by (first | with_reducible assumption | omega | grind)) hn | (first | with_reducible assumption | omega | grind))

theorem q_b_Space_wayTo_5 {N : Nat} (hN : zBig ≤ N) {σ0 : zS} {σ : zS} {v1 : Int32} {Q : (Int32 × zS) → Prop} (hJ : JX σ0 σ) (hQ : ∀ r, JX σ0 r.2 → Q r) : ∀ (n : Nat) (v3 : Int32) (v4 : Int32), (0 ≤ v3) → zmu v3 < n → zq (zb_Space_wayTo_5 N n σ v1 v3 v4) Q := by
  intro n
  induction n with
  | zero => intro _ _ _ hn; exact absurd hn (Nat.not_lt_zero _)
  | succ n ih =>
    intro v3 v4 hI hn
    rw [zb_Space_wayTo_5]
    refine zq_ite (fun c1 => ?_) fun c1 => ?_
    ·
      show zq (zb_Space_wayTo_43 N σ v1 v3) Q
      unfold zb_Space_wayTo_43
      exact q_b_Space_wayTo_51 hN hQ N σ (v3 - 1) v1 hJ (by exact zmd_lt hN _)
    ·
      refine zq_bind (q_f_Space_has hJ fun r10 pr10 => ?_)
      refine zq_ite (fun c2 => ?_) fun c2 => ?_
      ·
        show zq (zb_Space_wayTo_43 N σ v1 v3) Q
        unfold zb_Space_wayTo_43
        exact q_b_Space_wayTo_51 hN hQ N σ (v3 - 1) v1 hJ (by exact zmd_lt hN _)
      ·
        refine zq_ite (fun c3 => ?_) fun c3 => ?_
        ·
          show zq (zb_Space_wayTo_43 N σ v1 v3) Q
          unfold zb_Space_wayTo_43
          exact q_b_Space_wayTo_51 hN hQ N σ (v3 - 1) v1 hJ (by exact zmd_lt hN _)
        ·
          refine zq_chk (by (first | with_reducible assumption | omega | grind)) fun c4 => ?_
          exact ih (v3 + 1) ((σ 43 v4.toNatClampNeg) / 4) (by have := z_div (σ 43 v4.toNatClampNeg) 4; (first | with_reducible assumption | omega | grind)) (by first | exact zmu_up (by assumption) hn | exact zmu_up (b := 2147483647) (by (first | with_reducible assumption | omega | grind)) hn | (first | with_reducible assumption | omega | grind))

theorem q_f_Space_wayTo {N : Nat} (hN : zBig ≤ N) {σ0 : zS} {σ : zS} {x1 : Int32} {Q : (Int32 × zS) → Prop} (hJ : JX σ0 σ) (hQ : ∀ r, JX σ0 r.2 → Q r) : zq (zf_Space_wayTo N σ x1) Q := by
  unfold zf_Space_wayTo
  exact q_b_Space_wayTo_5 hN hJ hQ N 0 x1 (by (first | with_reducible assumption | omega | grind)) (by exact zmu_lt hN _)

theorem q_f_X_show {N : Nat} (hN : zBig ≤ N) {σ0 : zS} {σ : zS} {x1 : Int32} {x2 : Int32} {Q : (Int32 × zS) → Prop} (hJ : JX σ0 σ) (hQ : ∀ r, JX σ0 r.2 → Q r) : zq (zf_X_show N σ x1 x2) Q := by
  unfold zf_X_show
  refine zq_ite (fun c1 => ?_) fun c1 => ?_
  ·
    refine zq_bind (q_f_X_shownState hJ fun r2 => ?_)
    refine zq_ite (fun c2 => ?_) fun c2 => ?_
    ·
      refine zq_bind (q_f_Space_wayTo hN hJ fun r4 jr4 => ?_)
      exact hQ _ (JX.up2 (by decide) jr4)
    ·
      exact hQ _ hJ
  ·
    exact hQ _ hJ

theorem q_f_X_length {σ0 : zS} {σ : zS} {Q : (Int32) → Prop} (hJ : JX σ0 σ) (hQ : ∀ r, Q r) : zq (zf_X_length σ) Q := by
  unfold zf_X_length
  refine zq_ite (fun c1 => ?_) fun c1 => ?_
  ·
    exact hQ _
  ·
    exact hQ _

theorem q_f_X_who {σ0 : zS} {σ : zS} {x1 : Int32} {Q : (Int32) → Prop} (hJ : JX σ0 σ) (hQ : ∀ r, Q r) : zq (zf_X_who σ x1) Q := by
  unfold zf_X_who
  refine zq_ite (fun c1 => ?_) fun c1 => ?_
  ·
    refine zq_ite (fun c2 => ?_) fun c2 => ?_
    ·
      show zq (zb_X_who_30 σ) Q
      unfold zb_X_who_30
      exact hQ _
    ·
      refine zq_ite (fun c3 => ?_) fun c3 => ?_
      ·
        show zq (zb_X_who_30 σ) Q
        unfold zb_X_who_30
        exact hQ _
      ·
        refine zq_ite (fun c4 => ?_) fun c4 => ?_
        ·
          refine zq_chk (by (first | with_reducible assumption | omega | grind)) fun c5 => ?_
          exact hQ _
        ·
          show zq (zb_X_who_30 σ) Q
          unfold zb_X_who_30
          exact hQ _
  ·
    exact hQ _

theorem q_f_Numbers_get_c6 {σ0 : zS} {σ : zS} {x1 : Int32} {Q : (Int32) → Prop} (hJ : JX σ0 σ) (hQ : ∀ r, Q r) : zq (zf_Numbers_get_c6 σ x1) Q := by
  unfold zf_Numbers_get_c6
  refine zq_ite (fun c1 => ?_) fun c1 => ?_
  ·
    show zq (zb_Numbers_get_c6_21 σ) Q
    unfold zb_Numbers_get_c6_21
    exact hQ _
  ·
    refine zq_ite (fun c2 => ?_) fun c2 => ?_
    ·
      show zq (zb_Numbers_get_c6_21 σ) Q
      unfold zb_Numbers_get_c6_21
      exact hQ _
    ·
      refine zq_ite (fun c3 => ?_) fun c3 => ?_
      ·
        refine zq_chk (by (first | with_reducible assumption | omega | grind)) fun c4 => ?_
        exact hQ _
      ·
        show zq (zb_Numbers_get_c6_21 σ) Q
        unfold zb_Numbers_get_c6_21
        exact hQ _

theorem q_f_Program_partOfPair {σ0 : zS} {σ : zS} {x1 : Int32} {x2 : Int32} {Q : (Int32) → Prop} (hJ : JX σ0 σ) (hQ : ∀ r, Q r) : zq (zf_Program_partOfPair σ x1 x2) Q := by
  unfold zf_Program_partOfPair
  refine zq_ite (fun c1 => ?_) fun c1 => ?_
  ·
    exact hQ _
  ·
    refine zq_ite (fun c2 => ?_) fun c2 => ?_
    ·
      refine zq_ite (fun c3 => ?_) fun c3 => ?_
      ·
        exact hQ _
      ·
        refine zq_ite (fun c4 => ?_) fun c4 => ?_
        ·
          exact hQ _
        ·
          refine zq_ite (fun c5 => ?_) fun c5 => ?_
          ·
            exact hQ _
          ·
            refine zq_ite (fun c6 => ?_) fun c6 => ?_
            ·
              exact hQ _
            ·
              refine zq_ite (fun c7 => ?_) fun c7 => ?_
              ·
                refine zq_chk (by have := z_div x1 96; (first | with_reducible assumption | omega | grind)) fun c8 => ?_
                exact hQ _
              ·
                exact hQ _
    ·
      exact hQ _
theorem q_f_X_race {σ0 : zS} {σ : zS} {x1 : Int32} {x2 : Int32} {Q : (Int32) → Prop} (hJ : JX σ0 σ) (hQ : ∀ r, Q r) : zq (zf_X_race σ x1 x2) Q := by
  unfold zf_X_race
  refine zq_ite (fun c1 => ?_) fun c1 => ?_
  ·
    refine zq_bind (q_f_Numbers_get_c6 hJ fun r2 => ?_)
    refine zq_bind (q_f_Program_partOfPair hJ fun r3 => ?_)
    exact hQ _
  ·
    exact hQ _

theorem q_f_Program_hasThread {σ0 : zS} {σ : zS} {x1 : Int32} {Q : (Int32) → Prop} (hJ : JX σ0 σ) (hQ : ∀ r, Q r) : zq (zf_Program_hasThread σ x1) Q := by
  unfold zf_Program_hasThread
  refine zq_ite (fun c1 => ?_) fun c1 => ?_
  ·
    exact hQ _
  ·
    refine zq_ite (fun c2 => ?_) fun c2 => ?_
    ·
      exact hQ _
    ·
      refine zq_ite (fun c3 => ?_) fun c3 => ?_
      ·
        exact hQ _
      ·
        exact hQ _

theorem q_f_X_thread {N : Nat} (hN : zBig ≤ N) {σ0 : zS} {σ : zS} {x1 : Int32} {x2 : Int32} {x3 : Int32} {Q : (Int32 × zS) → Prop} (hJ : JX σ0 σ) (hQ : ∀ r, JX σ0 r.2 → Q r) : zq (zf_X_thread N σ x1 x2 x3) Q := by
  unfold zf_X_thread
  refine zq_ite (fun c1 => ?_) fun c1 => ?_
  ·
    refine zq_bind (q_f_Program_hasThread hJ fun r2 => ?_)
    refine zq_ite (fun c2 => ?_) fun c2 => ?_
    ·
      exact hQ _ hJ
    ·
      refine zq_bind (q_f_Space_has hJ fun r4 pr4 => ?_)
      refine zq_ite (fun c3 => ?_) fun c3 => ?_
      ·
        refine zq_bind (q_f_Space_load hN hJ fun r6 jr6 => ?_)
        refine zq_ite (fun c4 => ?_) fun c4 => ?_
        ·
          refine zq_bind (q_f_Machine_howOf jr6 fun r19 => ?_)
          exact hQ _ jr6
        ·
          refine zq_ite (fun c5 => ?_) fun c5 => ?_
          ·
            refine zq_bind (q_f_Machine_stepOf jr6 fun r18 => ?_)
            exact hQ _ jr6
          ·
            refine zq_ite (fun c6 => ?_) fun c6 => ?_
            ·
              refine zq_bind (q_f_Machine_canMove jr6 fun r16 => ?_)
              refine zq_ite (fun c7 => ?_) fun c7 => ?_
              ·
                exact hQ _ jr6
              ·
                exact hQ _ jr6
            ·
              refine zq_ite (fun c8 => ?_) fun c8 => ?_
              ·
                refine zq_bind (q_f_Machine_localOf jr6 fun r15 => ?_)
                exact hQ _ jr6
              ·
                refine zq_ite (fun c9 => ?_) fun c9 => ?_
                ·
                  refine zq_bind (q_f_Machine_localOf jr6 fun r14 => ?_)
                  exact hQ _ jr6
                ·
                  refine zq_ite (fun c10 => ?_) fun c10 => ?_
                  ·
                    refine zq_bind (q_f_Machine_localOf jr6 fun r13 => ?_)
                    exact hQ _ jr6
                  ·
                    exact hQ _ jr6
      ·
        exact hQ _ hJ
  ·
    exact hQ _ hJ

theorem q_f_X_field {N : Nat} (hN : zBig ≤ N) {σ0 : zS} {σ : zS} {x1 : Int32} {x2 : Int32} {Q : (Int32 × zS) → Prop} (hJ : JX σ0 σ) (hQ : ∀ r, JX σ0 r.2 → Q r) : zq (zf_X_field N σ x1 x2) Q := by
  unfold zf_X_field
  refine zq_ite (fun c1 => ?_) fun c1 => ?_
  ·
    refine zq_ite (fun c2 => ?_) fun c2 => ?_
    ·
      exact hQ _ hJ
    ·
      refine zq_ite (fun c3 => ?_) fun c3 => ?_
      ·
        exact hQ _ hJ
      ·
        refine zq_bind (q_f_Space_has hJ fun r4 pr4 => ?_)
        refine zq_ite (fun c4 => ?_) fun c4 => ?_
        ·
          refine zq_bind (q_f_Space_load hN hJ fun r6 jr6 => ?_)
          refine zq_bind (q_f_Machine_valueOfField jr6 fun r7 => ?_)
          exact hQ _ jr6
        ·
          exact hQ _ hJ
  ·
    exact hQ _ hJ

theorem q_f_X_owner {N : Nat} (hN : zBig ≤ N) {σ0 : zS} {σ : zS} {x1 : Int32} {x2 : Int32} {Q : (Int32 × zS) → Prop} (hJ : JX σ0 σ) (hQ : ∀ r, JX σ0 r.2 → Q r) : zq (zf_X_owner N σ x1 x2) Q := by
  unfold zf_X_owner
  refine zq_ite (fun c1 => ?_) fun c1 => ?_
  ·
    refine zq_ite (fun c2 => ?_) fun c2 => ?_
    ·
      exact hQ _ hJ
    ·
      refine zq_ite (fun c3 => ?_) fun c3 => ?_
      ·
        exact hQ _ hJ
      ·
        refine zq_bind (q_f_Space_has hJ fun r4 pr4 => ?_)
        refine zq_ite (fun c4 => ?_) fun c4 => ?_
        ·
          refine zq_bind (q_f_Space_load hN hJ fun r6 jr6 => ?_)
          refine zq_bind (q_f_Machine_ownerOf jr6 fun r7 => ?_)
          exact hQ _ jr6
        ·
          exact hQ _ hJ
  ·
    exact hQ _ hJ

theorem q_f_Machine_blockerOf {σ0 : zS} {σ : zS} {x1 : Int32} {Q : (Int32) → Prop} (hJ : JX σ0 σ) (hQ : ∀ r, Q r) : zq (zf_Machine_blockerOf σ x1) Q := by
  unfold zf_Machine_blockerOf
  refine zq_bind (q_f_Machine_slotOf hJ fun r1 pr1 => ?_)
  refine zq_bind (q_f_Machine_howOf hJ fun r2 => ?_)
  refine zq_ite (fun c1 => ?_) fun c1 => ?_
  ·
    exact hQ _
  ·
    refine zq_chk (by (first | with_reducible assumption | omega | grind)) fun c2 => ?_
    refine zq_ite (fun c3 => ?_) fun c3 => ?_
    ·
      refine zq_chk (by (first | with_reducible assumption | omega | grind)) fun c4 => ?_
      refine zq_bind (q_f_Machine_ownerOf hJ fun r7 => ?_)
      refine zq_ite (fun c5 => ?_) fun c5 => ?_
      ·
        exact hQ _
      ·
        exact hQ _
    ·
      exact hQ _

theorem q_b_Machine_hasRing_21 {N : Nat} (hN : zBig ≤ N) {k2 : zS → Int32 → Option (Int32)} {σ0 : zS} {σ : zS} {v1 : Int32} {Q : (Int32) → Prop} (hJ : JX σ0 σ) (hQ : ∀ r, Q r) (hk2_0 : zq (k2 σ (v1 + 1)) Q) : ∀ (n : Nat) (v2 : Int32) (v3 : Int32), (0 ≤ v3) → zmu v3 < n → zq (zb_Machine_hasRing_21 k2 N n σ v1 v2 v3) Q := by
  intro n
  induction n with
  | zero => intro _ _ _ hn; exact absurd hn (Nat.not_lt_zero _)
  | succ n ih =>
    intro v2 v3 hI hn
    rw [zb_Machine_hasRing_21]
    refine zq_ite (fun c1 => ?_) fun c1 => ?_
    ·
      show zq (zb_Machine_hasRing_50 k2 N σ v1) Q
      unfold zb_Machine_hasRing_50
      exact hk2_0  
    ·
      refine zq_ite (fun c2 => ?_) fun c2 => ?_
      ·
        show zq (zb_Machine_hasRing_50 k2 N σ v1) Q
        unfold zb_Machine_hasRing_50
        exact hk2_0  
      ·
        refine zq_ite (fun c3 => ?_) fun c3 => ?_
        ·
          refine zq_bind (q_f_Machine_blockerOf hJ fun r6 => ?_)
          exact ih r6 (v3 + 1) (by (first | with_reducible assumption | omega | grind)) (by first | exact zmu_up (by assumption) hn | exact zmu_up (b := 2147483647) (by (first | with_reducible assumption | omega | grind)) hn | (first | with_reducible assumption | omega | grind))
        ·
          exact hQ _

theorem q_b_Machine_hasRing_2 {N : Nat} (hN : zBig ≤ N) {σ0 : zS} {σ : zS} {Q : (Int32) → Prop} (hJ : JX σ0 σ) (hQ : ∀ r, Q r) : ∀ (n : Nat) (v1 : Int32), (0 ≤ v1) → zmu v1 < n → zq (zb_Machine_hasRing_2 N n σ v1) Q := by
  intro n
  induction n with
  | zero => intro _ _ hn; exact absurd hn (Nat.not_lt_zero _)
  | succ n ih =>
    intro v1 hI hn
    rw [zb_Machine_hasRing_2]
    refine zq_ite (fun c1 => ?_) fun c1 => ?_
    ·
      exact hQ _
    ·
      refine zq_bind (q_f_Machine_blockerOf hJ fun r2 => ?_)
      exact q_b_Machine_hasRing_21 hN hJ hQ (ih (v1 + 1) (by (first | with_reducible assumption | omega | grind)) (by first | exact zmu_up (by assumption) hn | exact zmu_up (b := 2147483647) (by (first | with_reducible assumption | omega | grind)) hn | (first | with_reducible assumption | omega | grind))) N r2 0 (by (first | with_reducible assumption | omega | grind)) (by exact zmu_lt hN _)

theorem q_f_Machine_hasRing {N : Nat} (hN : zBig ≤ N) {σ0 : zS} {σ : zS} {Q : (Int32) → Prop} (hJ : JX σ0 σ) (hQ : ∀ r, Q r) : zq (zf_Machine_hasRing N σ) Q := by
  unfold zf_Machine_hasRing
  exact q_b_Machine_hasRing_2 hN hJ hQ N 0 (by (first | with_reducible assumption | omega | grind)) (by exact zmu_lt hN _)

theorem q_b_Machine_onlyWaits_2 {N : Nat} (hN : zBig ≤ N) {σ0 : zS} {σ : zS} {Q : (Int32) → Prop} (hJ : JX σ0 σ) (hQ : ∀ r, Q r) : ∀ (n : Nat) (v1 : Int32), (0 ≤ v1) → zmu v1 < n → zq (zb_Machine_onlyWaits_2 N n σ v1) Q := by
  intro n
  induction n with
  | zero => intro _ _ hn; exact absurd hn (Nat.not_lt_zero _)
  | succ n ih =>
    intro v1 hI hn
    rw [zb_Machine_onlyWaits_2]
    refine zq_ite (fun c1 => ?_) fun c1 => ?_
    ·
      exact hQ _
    ·
      refine zq_bind (q_f_Machine_isGone hJ fun r2 => ?_)
      refine zq_ite (fun c2 => ?_) fun c2 => ?_
      ·
        show zq (zb_Machine_onlyWaits_32 (zb_Machine_onlyWaits_2 N n) N σ v1) Q
        unfold zb_Machine_onlyWaits_32
        exact ih (v1 + 1) (by (first | with_reducible assumption | omega | grind)) (by first | exact zmu_up (by assumption) hn | exact zmu_up (b := 2147483647) (by (first | with_reducible assumption | omega | grind)) hn | (first | with_reducible assumption | omega | grind))
      ·
        refine zq_bind (q_f_Machine_howOf hJ fun r4 => ?_)
        refine zq_ite (fun c3 => ?_) fun c3 => ?_
        ·
          show zq (zb_Machine_onlyWaits_32 (zb_Machine_onlyWaits_2 N n) N σ v1) Q
          unfold zb_Machine_onlyWaits_32
          exact ih (v1 + 1) (by (first | with_reducible assumption | omega | grind)) (by first | exact zmu_up (by assumption) hn | exact zmu_up (b := 2147483647) (by (first | with_reducible assumption | omega | grind)) hn | (first | with_reducible assumption | omega | grind))
        ·
          exact hQ _

theorem q_f_Machine_onlyWaits {N : Nat} (hN : zBig ≤ N) {σ0 : zS} {σ : zS} {Q : (Int32) → Prop} (hJ : JX σ0 σ) (hQ : ∀ r, Q r) : zq (zf_Machine_onlyWaits N σ) Q := by
  unfold zf_Machine_onlyWaits
  exact q_b_Machine_onlyWaits_2 hN hJ hQ N 0 (by (first | with_reducible assumption | omega | grind)) (by exact zmu_lt hN _)

theorem q_f_X_stuck {N : Nat} (hN : zBig ≤ N) {σ0 : zS} {σ : zS} {x1 : Int32} {Q : (Int32 × zS) → Prop} (hJ : JX σ0 σ) (hQ : ∀ r, JX σ0 r.2 → Q r) : zq (zf_X_stuck N σ x1) Q := by
  unfold zf_X_stuck
  refine zq_ite (fun c1 => ?_) fun c1 => ?_
  ·
    refine zq_bind (q_f_Space_has hJ fun r2 pr2 => ?_)
    refine zq_ite (fun c2 => ?_) fun c2 => ?_
    ·
      exact hQ _ hJ
    ·
      refine zq_bind (q_f_Space_isLast hJ fun r4 => ?_)
      refine zq_ite (fun c3 => ?_) fun c3 => ?_
      ·
        refine zq_bind (q_f_Space_load hN hJ fun r6 jr6 => ?_)
        refine zq_bind (q_f_Machine_isOver hN jr6 fun r7 => ?_)
        refine zq_ite (fun c4 => ?_) fun c4 => ?_
        ·
          refine zq_bind (q_f_Machine_hasRing hN jr6 fun r9 => ?_)
          refine zq_ite (fun c5 => ?_) fun c5 => ?_
          ·
            refine zq_bind (q_f_Machine_onlyWaits hN jr6 fun r11 => ?_)
            refine zq_ite (fun c6 => ?_) fun c6 => ?_
            ·
              exact hQ _ jr6
            ·
              exact hQ _ jr6
          ·
            exact hQ _ jr6
        ·
          exact hQ _ jr6
      ·
        exact hQ _ hJ
  ·
    exact hQ _ hJ

theorem q_b_Arrays_fill_c7_5 {N : Nat} (hN : zBig ≤ N) {σ0 : zS} {v1 : Int32} {v3 : Int32} {Q : (zS) → Prop} (hQ : ∀ r, JX σ0 r → Q r) : ∀ (n : Nat) (σ : zS) (v2 : Int32), JX σ0 σ → (0 ≤ v2 ∧ v3 = 8192) → zmu v2 < n → zq (zb_Arrays_fill_c7_5 N n σ v1 v2 v3) Q := by
  intro n
  induction n with
  | zero => intro _ _ _ _ hn; exact absurd hn (Nat.not_lt_zero _)
  | succ n ih =>
    intro σ v2 hJ hI hn
    rw [zb_Arrays_fill_c7_5]
    refine zq_ite (fun c1 => ?_) fun c1 => ?_
    ·
      exact hQ _ hJ
    ·
      refine zq_chk (by (first | with_reducible assumption | omega | grind)) fun c2 => ?_
      exact ih (zx_up σ 68 v2.toNatClampNeg v1) (v2 + 1) (JX.up (by decide) hJ) (by (first | with_reducible assumption | omega | grind)) (by first | exact zmu_up (by assumption) hn | exact zmu_up (b := 2147483647) (by (first | with_reducible assumption | omega | grind)) hn | (first | with_reducible assumption | omega | grind))

theorem q_f_Arrays_fill_c7 {N : Nat} (hN : zBig ≤ N) {σ0 : zS} {σ : zS} {x2 : Int32} {Q : (zS) → Prop} (hJ : JX σ0 σ) (hQ : ∀ r, JX σ0 r → Q r) : zq (zf_Arrays_fill_c7 N σ x2) Q := by
  unfold zf_Arrays_fill_c7
  exact q_b_Arrays_fill_c7_5 hN hQ N σ 0 hJ (by (first | with_reducible assumption | omega | grind)) (by exact zmu_lt hN _)

theorem q_f_Space_has_c1 {σ0 : zS} {σ : zS} {x1 : Int32} {Q : (Int32) → Prop} (hJ : JX σ0 σ) (hQ : ∀ r, (r = 0 ∨ (0 ≤ x1 ∧ x1 < 4000)) → Q r) : zq (zf_Space_has_c1 σ x1) Q := by
  unfold zf_Space_has_c1
  refine zq_ite (fun c1 => ?_) fun c1 => ?_
  ·
    exact hQ _ (by (first | with_reducible assumption | omega | grind))
  ·
    refine zq_ite (fun c2 => ?_) fun c2 => ?_
    ·
      exact hQ _ (by (first | with_reducible assumption | omega | grind))
    ·
      refine zq_ite (fun c3 => ?_) fun c3 => ?_
      ·
        exact hQ _ (by (first | with_reducible assumption | omega | grind))
      ·
        exact hQ _ (by (first | with_reducible assumption | omega | grind))

theorem q_b_Space_isComing_c1_2 {N : Nat} (hN : zBig ≤ N) {σ0 : zS} {σ : zS} {v1 : Int32} {Q : (Int32) → Prop} (hJ : JX σ0 σ) (hQ : ∀ r, Q r) : ∀ (n : Nat) (v2 : Int32), (0 ≤ v2) → zmu v2 < n → zq (zb_Space_isComing_c1_2 N n σ v1 v2) Q := by
  intro n
  induction n with
  | zero => intro _ _ hn; exact absurd hn (Nat.not_lt_zero _)
  | succ n ih =>
    intro v2 hI hn
    rw [zb_Space_isComing_c1_2]
    refine zq_ite (fun c1 => ?_) fun c1 => ?_
    ·
      exact hQ _
    ·
      refine zq_bind (q_f_Space_has_c1 hJ fun r2 pr2 => ?_)
      refine zq_ite (fun c2 => ?_) fun c2 => ?_
      ·
        exact hQ _
      ·
        refine zq_chk (by (first | with_reducible assumption | omega | grind)) fun c3 => ?_
        refine zq_chk (by (first | with_reducible assumption | omega | grind)) fun c4 => ?_
        refine zq_ite (fun c5 => ?_) fun c5 => ?_
        ·
          exact ih (v2 + 1) (by (first | with_reducible assumption | omega | grind)) (by first | exact zmu_up (by assumption) hn | exact zmu_up (b := 2147483647) (by (first | with_reducible assumption | omega | grind)) hn | (first | with_reducible assumption | omega | grind))
        ·
          exact hQ _

theorem q_f_Space_isComing_c1 {N : Nat} (hN : zBig ≤ N) {σ0 : zS} {σ : zS} {x1 : Int32} {Q : (Int32) → Prop} (hJ : JX σ0 σ) (hQ : ∀ r, Q r) : zq (zf_Space_isComing_c1 N σ x1) Q := by
  unfold zf_Space_isComing_c1
  exact q_b_Space_isComing_c1_2 hN hJ hQ N 0 (by (first | with_reducible assumption | omega | grind)) (by exact zmu_lt hN _)

theorem q_b_Space_slotOfComing_c1_45 {N : Nat} (hN : zBig ≤ N) {σ0 : zS} {σ : zS} {Q : (Int32) → Prop} (hJ : JX σ0 σ) (hQ : ∀ r, (0 ≤ r ∧ r < 8192) → Q r) : ∀ (n : Nat) (v2 : Int32) (v3 : Int32), ((0 ≤ v2 ∧ v2 < 8192) ∧ 0 ≤ v3) → zmu v3 < n → zq (zb_Space_slotOfComing_c1_45 N n σ v2 v3) Q := by
  intro n
  induction n with
  | zero => intro _ _ _ hn; exact absurd hn (Nat.not_lt_zero _)
  | succ n ih =>
    intro v2 v3 hI hn
    rw [zb_Space_slotOfComing_c1_45]
    refine zq_ite (fun c1 => ?_) fun c1 => ?_
    ·
      exact hQ _ (by (first | with_reducible assumption | omega | grind))
    ·
      refine zq_chk (by (first | with_reducible assumption | omega | grind)) fun c2 => ?_
      refine zq_ite (fun c3 => ?_) fun c3 => ?_
      ·
        exact hQ _ (by (first | with_reducible assumption | omega | grind))
      ·
        refine zq_chk (by (first | with_reducible assumption | omega | grind)) fun c4 => ?_
        refine zq_bind (q_f_Space_isComing_c1 hN hJ fun r6 => ?_)
        refine zq_ite (fun c5 => ?_) fun c5 => ?_
        ·
          exact ih ((v2 + 1) &&& 8191) (v3 + 1) (by have := z_and (v2 + 1) 8191 (by decide); have := z_and (v2 + 1) 8191 (by decide); (first | with_reducible assumption | omega | grind)) (by first | exact zmu_up (by assumption) hn | exact zmu_up (b := 2147483647) (by (first | with_reducible assumption | omega | grind)) hn | (first | with_reducible assumption | omega | grind))
        ·
          exact hQ _ (by (first | with_reducible assumption | omega | grind))

theorem q_b_Space_slotOfComing_c1_4 {N : Nat} (hN : zBig ≤ N) {σ0 : zS} {σ : zS} {Q : (Int32) → Prop} (hJ : JX σ0 σ) (hQ : ∀ r, (0 ≤ r ∧ r < 8192) → Q r) : ∀ (n : Nat) (v1 : Int32) (v2 : Int32), (0 ≤ v2) → zmu v2 < n → zq (zb_Space_slotOfComing_c1_4 N n σ v1 v2) Q := by
  intro n
  induction n with
  | zero => intro _ _ _ hn; exact absurd hn (Nat.not_lt_zero _)
  | succ n ih =>
    intro v1 v2 hI hn
    rw [zb_Space_slotOfComing_c1_4]
    refine zq_ite (fun c1 => ?_) fun c1 => ?_
    ·
      exact q_b_Space_slotOfComing_c1_45 hN hJ hQ N (v1 &&& 8191) 0 (by have := z_and v1 8191 (by decide); have := z_and v1 8191 (by decide); (first | with_reducible assumption | omega | grind)) (by exact zmu_lt hN _)
    ·
      refine zq_chk (by (first | with_reducible assumption | omega | grind)) fun c2 => ?_
      exact ih (((v1 ^^^ (σ 40 v2.toNatClampNeg)) * (-1640531535)) ^^^ (zJ_ushr ((v1 ^^^ (σ 40 v2.toNatClampNeg)) * (-1640531535)) 15)) (v2 + 1) (by (first | with_reducible assumption | omega | grind)) (by first | exact zmu_up (by assumption) hn | exact zmu_up (b := 2147483647) (by (first | with_reducible assumption | omega | grind)) hn | (first | with_reducible assumption | omega | grind))

theorem q_f_Space_slotOfComing_c1 {N : Nat} (hN : zBig ≤ N) {σ0 : zS} {σ : zS} {Q : (Int32) → Prop} (hJ : JX σ0 σ) (hQ : ∀ r, (0 ≤ r ∧ r < 8192) → Q r) : zq (zf_Space_slotOfComing_c1 N σ) Q := by
  unfold zf_Space_slotOfComing_c1
  exact q_b_Space_slotOfComing_c1_4 hN hJ hQ N 0 0 (by (first | with_reducible assumption | omega | grind)) (by exact zmu_lt hN _)

theorem q_f_Space_note_c1 {N : Nat} (hN : zBig ≤ N) {σ0 : zS} {σ : zS} {x1 : Int32} {Q : (Int32 × zS) → Prop} (hJ : JX σ0 σ) (hQ : ∀ r, JX σ0 r.2 → (r.1 = 0 ∨ r.1 = 1) → Q r) : zq (zf_Space_note_c1 N σ x1) Q := by
  unfold zf_Space_note_c1
  refine zq_bind (q_f_Space_slotOfComing_c1 hN hJ fun r1 pr1 => ?_)
  refine zq_chk (by (first | with_reducible assumption | omega | grind)) fun c1 => ?_
  refine zq_ite (fun c2 => ?_) fun c2 => ?_
  ·
    refine zq_ite (fun c3 => ?_) fun c3 => ?_
    ·
      exact hQ _ hJ (by (first | with_reducible assumption | omega | grind))
    ·
      refine zq_ite (fun c4 => ?_) fun c4 => ?_
      ·
        refine zq_chk (by (first | with_reducible assumption | omega | grind)) fun c5 => ?_
        refine zq_chk (by have := (show (zJ_copy σ 40 65 0 ((σ 64 6) * 5) 5) 64 6 = σ 64 6 from rfl); (first | with_reducible assumption | omega | grind)) fun c6 => ?_
        refine zq_chk (by (first | with_reducible assumption | omega | grind)) fun c7 => ?_
        exact hQ _ (JX.up (by decide) (JX.up (by decide) (JX.up (by decide) (JX.cp (by decide) hJ)))) (by (first | with_reducible assumption | omega | grind))
      ·
        exact hQ _ hJ (by (first | with_reducible assumption | omega | grind))
  ·
    exact hQ _ hJ (by (first | with_reducible assumption | omega | grind))

theorem q_b_Machine_load_c1_95 {N : Nat} (hN : zBig ≤ N) {k34 : zS → Int32 → Option (zS)} {σ0 : zS} {v3 : Int32} {v5 : Int32} {Q : (zS) → Prop} (hk34_0 : ∀ (y0 : zS), JX σ0 y0 → zq (k34 y0 (v3 + 1)) Q) : ∀ (n : Nat) (σ : zS) (v6 : Int32), JX σ0 σ → (0 ≤ v6) → zmu v6 < n → zq (zb_Machine_load_c1_95 k34 N n σ v3 v5 v6) Q := by
  intro n
  induction n with
  | zero => intro _ _ _ _ hn; exact absurd hn (Nat.not_lt_zero _)
  | succ n ih =>
    intro σ v6 hJ hI hn
    rw [zb_Machine_load_c1_95]
    refine zq_ite (fun c1 => ?_) fun c1 => ?_
    ·
      show zq (zb_Machine_load_c1_130 k34 N σ v3) Q
      unfold zb_Machine_load_c1_130
      exact hk34_0 σ hJ
    ·
      refine zq_ite (fun c2 => ?_) fun c2 => ?_
      ·
        show zq (zb_Machine_load_c1_130 k34 N σ v3) Q
        unfold zb_Machine_load_c1_130
        exact hk34_0 σ hJ
      ·
        refine zq_ite (fun c3 => ?_) fun c3 => ?_
        ·
          show zq (zb_Machine_load_c1_124 (zb_Machine_load_c1_95 k34 N n) N σ v3 v5 v6) Q
          unfold zb_Machine_load_c1_124
          exact ih σ (v6 + 1) hJ (by (first | with_reducible assumption | omega | grind)) (by first | exact zmu_up (by assumption) hn | exact zmu_up (b := 2147483647) (by (first | with_reducible assumption | omega | grind)) hn | (first | with_reducible assumption | omega | grind))
        ·
          refine zq_chk (by (first | with_reducible assumption | omega | grind)) fun c4 => ?_
          show zq (zb_Machine_load_c1_124 (zb_Machine_load_c1_95 k34 N n) N (zx_up σ 38 v6.toNatClampNeg v3) v3 v5 v6) Q
          unfold zb_Machine_load_c1_124
          exact ih (zx_up σ 38 v6.toNatClampNeg v3) (v6 + 1) (JX.up (by decide) hJ) (by (first | with_reducible assumption | omega | grind)) (by first | exact zmu_up (by assumption) hn | exact zmu_up (b := 2147483647) (by (first | with_reducible assumption | omega | grind)) hn | (first | with_reducible assumption | omega | grind))

theorem q_b_Machine_load_c1_34 {N : Nat} (hN : zBig ≤ N) {σ0 : zS} {Q : (zS) → Prop} (hQ : ∀ r, JX σ0 r → Q r) : ∀ (n : Nat) (σ : zS) (v3 : Int32), JX σ0 σ → (0 ≤ v3) → zmu v3 < n → zq (zb_Machine_load_c1_34 N n σ v3) Q := by
  intro n
  induction n with
  | zero => intro _ _ _ _ hn; exact absurd hn (Nat.not_lt_zero _)
  | succ n ih =>
    intro σ v3 hJ hI hn
    rw [zb_Machine_load_c1_34]
    refine zq_ite (fun c1 => ?_) fun c1 => ?_
    ·
      exact hQ _ hJ
    ·
      refine zq_chk (by (first | with_reducible assumption | omega | grind)) fun c2 => ?_
      refine zq_chk (by (first | with_reducible assumption | omega | grind)) fun c3 => ?_
      refine zq_bind (q_f_Program_slotOf (JX.up (by decide) hJ) fun r8 pr8 => ?_)
      refine zq_chk (by (first | with_reducible assumption | omega | grind)) fun c4 => ?_
      refine zq_bind (q_f_Machine_locksOf (JX.up37 (by (first | with_reducible assumption | omega | grind)) (JX.up (by decide) hJ)) fun r10 => ?_)
      exact q_b_Machine_load_c1_95 hN (fun y0 jy => ih y0 (v3 + 1) jy (by (first | with_reducible assumption | omega | grind)) (by first | exact zmu_up (by assumption) hn | exact zmu_up (b := 2147483647) (by (first | with_reducible assumption | omega | grind)) hn | (first | with_reducible assumption | omega | grind))) N (zx_up (zx_up σ 36 v3.toNatClampNeg ((zJ_ushr (σ 39 (v3 + 1).toNatClampNeg) 14) &&& 7)) 37 v3.toNatClampNeg r8) 0 (JX.up37 (by (first | with_reducible assumption | omega | grind)) (JX.up (by decide) hJ)) (by (first | with_reducible assumption | omega | grind)) (by exact zmu_lt hN _)

theorem q_f_Machine_load_c1 {N : Nat} (hN : zBig ≤ N) {σ0 : zS} {σ : zS} {x2 : Int32} {Q : (zS) → Prop} (hJ : JX σ0 σ) (hP : 0 ≤ x2 ∧ x2 ≤ 19995) (hQ : ∀ r, JX σ0 r → Q r) : zq (zf_Machine_load_c1 N σ x2) Q := by
  unfold zf_Machine_load_c1
  refine zq_ite (fun c1 => ?_) fun c1 => ?_
  ·
    exact hQ _ hJ
  ·
    refine zq_ite (fun c2 => ?_) fun c2 => ?_
    ·
      refine zq_chk (by (first | with_reducible assumption | omega | grind)) fun c3 => ?_
      refine zq_bind (q_f_Arrays_fill_c4 hN (JX.cp (by decide) hJ) fun r4 jr4 => ?_)
      exact q_b_Machine_load_c1_34 hN hQ N r4 0 jr4 (by (first | with_reducible assumption | omega | grind)) (by exact zmu_lt hN _)
    ·
      exact hQ _ hJ

theorem q_f_Space_load_c1 {N : Nat} (hN : zBig ≤ N) {σ0 : zS} {σ : zS} {x1 : Int32} {Q : (zS) → Prop} (hJ : JX σ0 σ) (hQ : ∀ r, JX σ0 r → Q r) : zq (zf_Space_load_c1 N σ x1) Q := by
  unfold zf_Space_load_c1
  refine zq_bind (q_f_Space_has_c1 hJ fun r1 pr1 => ?_)
  refine zq_ite (fun c1 => ?_) fun c1 => ?_
  ·
    exact hQ _ hJ
  ·
    refine zq_bind (q_f_Machine_load_c1 hN hJ (by (first | with_reducible assumption | omega | grind)) fun r3 jr3 => ?_)
    exact hQ _ jr3

theorem q_b_Space_exploreFrom_c1_48 {N : Nat} (hN : zBig ≤ N) {k20 : zS → Int32 → Int32 → Int32 → Int32 → Int32 → Option (Int32 × zS)} {σ0 : zS} {σ : zS} {v1 : Int32} {v2 : Int32} {v3 : Int32} {v4 : Int32} {v5 : Int32} {s0 : Int32} {Q : (Int32 × zS) → Prop} (hJ : JX σ0 σ) (hQ : ∀ r, JX σ0 r.2 → (r.1 = 0 ∨ r.1 = 1) → Q r) (hk20_0 : zq (k20 σ v1 v2 v3 v4 (v5 + 1)) Q) (hk20_1 : ∀ (y0 : zS), JX σ0 y0 → zq (k20 y0 v1 v2 v3 0 (v5 + 1)) Q) : zq (zb_Space_exploreFrom_c1_48 k20 N σ v1 v2 v3 v4 v5 s0) Q := by
  unfold zb_Space_exploreFrom_c1_48
  refine zq_ite (fun c1 => ?_) fun c1 => ?_
  ·
    show zq (zb_Space_exploreFrom_c1_95 k20 N σ v1 v2 v3 v4 v5) Q
    unfold zb_Space_exploreFrom_c1_95
    exact hk20_0  
  ·
    refine zq_bind (q_f_Machine_canMove hJ fun r9 => ?_)
    refine zq_ite (fun c2 => ?_) fun c2 => ?_
    ·
      show zq (zb_Space_exploreFrom_c1_95 k20 N σ v1 v2 v3 v4 v5) Q
      unfold zb_Space_exploreFrom_c1_95
      exact hk20_0  
    ·
      refine zq_bind (q_f_Machine_move hN hJ fun r11 jr11 => ?_)
      refine zq_bind (q_f_Space_note_c1 hN jr11 fun r12 jr12 pr12 => ?_)
      refine zq_ite (fun c3 => ?_) fun c3 => ?_
      ·
        show zq (zb_Space_exploreFrom_c1_95 k20 N r12.2 v1 v2 v3 0 v5) Q
        unfold zb_Space_exploreFrom_c1_95
        exact hk20_1 r12.2 jr12
      ·
        exact hQ _ jr12 (by (first | with_reducible assumption | omega | grind))

theorem q_b_Space_exploreFrom_c1_20 {N : Nat} (hN : zBig ≤ N) {σ0 : zS} {v1 : Int32} {v2 : Int32} {v3 : Int32} {Q : (Int32 × zS) → Prop} (hQ : ∀ r, JX σ0 r.2 → (r.1 = 0 ∨ r.1 = 1) → Q r) : ∀ (n : Nat) (σ : zS) (v4 : Int32) (v5 : Int32), JX σ0 σ → (0 ≤ v5) → zmu v5 < n → zq (zb_Space_exploreFrom_c1_20 N n σ v1 v2 v3 v4 v5) Q := by
  intro n
  induction n with
  | zero => intro _ _ _ _ _ hn; exact absurd hn (Nat.not_lt_zero _)
  | succ n ih =>
    intro σ v4 v5 hJ hI hn
    rw [zb_Space_exploreFrom_c1_20]
    refine zq_ite (fun c1 => ?_) fun c1 => ?_
    ·
      refine zq_bind (q_f_Space_has_c1 hJ fun r4 pr4 => ?_)
      refine zq_ite (fun c2 => ?_) fun c2 => ?_
      ·
        exact hQ _ hJ (by (first | with_reducible assumption | omega | grind))
      ·
        refine zq_chk (by (first | with_reducible assumption | omega | grind)) fun c3 => ?_
        exact hQ _ (JX.up (by decide) hJ) (by (first | with_reducible assumption | omega | grind))
    ·
      refine zq_ite (fun c4 => ?_) fun c4 => ?_
      ·
        show zq (zb_Space_exploreFrom_c1_43 (zb_Space_exploreFrom_c1_20 N n) N σ v1 v2 v3 v4 v5) Q
        unfold zb_Space_exploreFrom_c1_43
        exact q_b_Space_exploreFrom_c1_48 hN hJ hQ (ih σ v4 (v5 + 1) hJ (by (first | with_reducible assumption | omega | grind)) (by first | exact zmu_up (by assumption) hn | exact zmu_up (b := 2147483647) (by (first | with_reducible assumption | omega | grind)) hn | (first | with_reducible assumption | omega | grind))) (fun y0 jy => ih y0 0 (v5 + 1) jy (by (first | with_reducible assumption | omega | grind)) (by first | exact zmu_up (by assumption) hn | exact zmu_up (b := 2147483647) (by (first | with_reducible assumption | omega | grind)) hn | (first | with_reducible assumption | omega | grind)))
      ·
        refine zq_ite (fun c5 => ?_) fun c5 => ?_
        ·
          exact q_b_Space_exploreFrom_c1_48 hN hJ hQ (ih σ v4 (v5 + 1) hJ (by (first | with_reducible assumption | omega | grind)) (by first | exact zmu_up (by assumption) hn | exact zmu_up (b := 2147483647) (by (first | with_reducible assumption | omega | grind)) hn | (first | with_reducible assumption | omega | grind))) (fun y0 jy => ih y0 0 (v5 + 1) jy (by (first | with_reducible assumption | omega | grind)) (by first | exact zmu_up (by assumption) hn | exact zmu_up (b := 2147483647) (by (first | with_reducible assumption | omega | grind)) hn | (first | with_reducible assumption | omega | grind)))
        ·
          show zq (zb_Space_exploreFrom_c1_43 (zb_Space_exploreFrom_c1_20 N n) N σ v1 v2 v3 v4 v5) Q
          unfold zb_Space_exploreFrom_c1_43
          exact q_b_Space_exploreFrom_c1_48 hN hJ hQ (ih σ v4 (v5 + 1) hJ (by (first | with_reducible assumption | omega | grind)) (by first | exact zmu_up (by assumption) hn | exact zmu_up (b := 2147483647) (by (first | with_reducible assumption | omega | grind)) hn | (first | with_reducible assumption | omega | grind))) (fun y0 jy => ih y0 0 (v5 + 1) jy (by (first | with_reducible assumption | omega | grind)) (by first | exact zmu_up (by assumption) hn | exact zmu_up (b := 2147483647) (by (first | with_reducible assumption | omega | grind)) hn | (first | with_reducible assumption | omega | grind)))

theorem q_f_Space_exploreFrom_c1 {N : Nat} (hN : zBig ≤ N) {σ0 : zS} {σ : zS} {x1 : Int32} {x2 : Int32} {Q : (Int32 × zS) → Prop} (hJ : JX σ0 σ) (hQ : ∀ r, JX σ0 r.2 → (r.1 = 0 ∨ r.1 = 1) → Q r) : zq (zf_Space_exploreFrom_c1 N σ x1 x2) Q := by
  unfold zf_Space_exploreFrom_c1
  refine zq_bind (q_f_Space_load_c1 hN hJ fun r1 jr1 => ?_)
  refine zq_bind (q_f_Machine_aloneIn hN jr1 fun r2 => ?_)
  exact q_b_Space_exploreFrom_c1_20 hN hQ N r1 1 0 jr1 (by (first | with_reducible assumption | omega | grind)) (by exact zmu_lt hN _)

theorem q_b_Space_explore_c1_28 {N : Nat} (hN : zBig ≤ N) {σ0 : zS} {v1 : Int32} {Q : (Int32 × zS) → Prop} (hQ : ∀ r, JX σ0 r.2 → (r.1 = 0 ∨ r.1 = 1) → Q r) : ∀ (n : Nat) (σ : zS) (v2 : Int32) (v3 : Int32), JX σ0 σ → (((v2 = 0 ∨ v2 = 1)) ∧ 0 ≤ v3) → zmu v3 < n → zq (zb_Space_explore_c1_28 N n σ v1 v2 v3) Q := by
  intro n
  induction n with
  | zero => intro _ _ _ _ _ hn; exact absurd hn (Nat.not_lt_zero _)
  | succ n ih =>
    intro σ v2 v3 hJ hI hn
    rw [zb_Space_explore_c1_28]
    refine zq_ite (fun c1 => ?_) fun c1 => ?_
    ·
      refine zq_chk (by (first | with_reducible assumption | omega | grind)) fun c2 => ?_
      exact hQ _ hJ (by (first | with_reducible assumption | omega | grind))
    ·
      refine zq_ite (fun c3 => ?_) fun c3 => ?_
      ·
        refine zq_chk (by (first | with_reducible assumption | omega | grind)) fun c4 => ?_
        exact hQ _ hJ (by (first | with_reducible assumption | omega | grind))
      ·
        refine zq_ite (fun c5 => ?_) fun c5 => ?_
        ·
          refine zq_chk (by (first | with_reducible assumption | omega | grind)) fun c6 => ?_
          exact hQ _ hJ (by (first | with_reducible assumption | omega | grind))
        ·
          refine zq_bind (q_f_Space_exploreFrom_c1 hN hJ fun r10 jr10 pr10 => ?_)
          exact ih r10.2 r10.1 (v3 + 1) jr10 (by (first | with_reducible assumption | omega | grind)) (by first | exact zmu_up (by assumption) hn | exact zmu_up (b := 2147483647) (by (first | with_reducible assumption | omega | grind)) hn | (first | with_reducible assumption | omega | grind))

theorem q_f_Space_explore_c1 {N : Nat} (hN : zBig ≤ N) {σ0 : zS} {σ : zS} {x1 : Int32} {Q : (Int32 × zS) → Prop} (hJ : JX σ0 σ) (hQ : ∀ r, JX σ0 r.2 → (r.1 = 0 ∨ r.1 = 1) → Q r) : zq (zf_Space_explore_c1 N σ x1) Q := by
  unfold zf_Space_explore_c1
  refine zq_bind (q_f_Arrays_fill_c7 hN (JX.up (by decide) hJ) fun r1 jr1 => ?_)
  refine zq_bind (q_f_Machine_setFirst hN jr1 fun r2 jr2 => ?_)
  refine zq_bind (q_f_Space_note_c1 hN jr2 fun r3 jr3 pr3 => ?_)
  exact q_b_Space_explore_c1_28 hN hQ N r3.2 r3.1 0 jr3 (by (first | with_reducible assumption | omega | grind)) (by exact zmu_lt hN _)

theorem q_f_Numbers_clear_c7 {σ0 : zS} {σ : zS} {Q : (zS) → Prop} (hJ : JX σ0 σ) (hQ : ∀ r, JX σ0 r → Q r) : zq (zf_Numbers_clear_c7 σ) Q := by
  unfold zf_Numbers_clear_c7
  exact hQ _ (JX.up (by decide) hJ)

theorem q_f_Numbers_clear_c8 {σ0 : zS} {σ : zS} {Q : (zS) → Prop} (hJ : JX σ0 σ) (hQ : ∀ r, JX σ0 r → Q r) : zq (zf_Numbers_clear_c8 σ) Q := by
  unfold zf_Numbers_clear_c8
  exact hQ _ (JX.up (by decide) hJ)

theorem q_b_Arrays_fill_c8_5 {N : Nat} (hN : zBig ≤ N) {σ0 : zS} {v1 : Int32} {v3 : Int32} {Q : (zS) → Prop} (hQ : ∀ r, JX σ0 r → Q r) : ∀ (n : Nat) (σ : zS) (v2 : Int32), JX σ0 σ → (0 ≤ v2 ∧ v3 = 8192) → zmu v2 < n → zq (zb_Arrays_fill_c8_5 N n σ v1 v2 v3) Q := by
  intro n
  induction n with
  | zero => intro _ _ _ _ hn; exact absurd hn (Nat.not_lt_zero _)
  | succ n ih =>
    intro σ v2 hJ hI hn
    rw [zb_Arrays_fill_c8_5]
    refine zq_ite (fun c1 => ?_) fun c1 => ?_
    ·
      exact hQ _ hJ
    ·
      refine zq_chk (by (first | with_reducible assumption | omega | grind)) fun c2 => ?_
      exact ih (zx_up σ 74 v2.toNatClampNeg v1) (v2 + 1) (JX.up (by decide) hJ) (by (first | with_reducible assumption | omega | grind)) (by first | exact zmu_up (by assumption) hn | exact zmu_up (b := 2147483647) (by (first | with_reducible assumption | omega | grind)) hn | (first | with_reducible assumption | omega | grind))

theorem q_f_Arrays_fill_c8 {N : Nat} (hN : zBig ≤ N) {σ0 : zS} {σ : zS} {x2 : Int32} {Q : (zS) → Prop} (hJ : JX σ0 σ) (hQ : ∀ r, JX σ0 r → Q r) : zq (zf_Arrays_fill_c8 N σ x2) Q := by
  unfold zf_Arrays_fill_c8
  exact q_b_Arrays_fill_c8_5 hN hQ N σ 0 hJ (by (first | with_reducible assumption | omega | grind)) (by exact zmu_lt hN _)

theorem q_f_Space_isLast_c1 {σ0 : zS} {σ : zS} {x1 : Int32} {Q : (Int32) → Prop} (hJ : JX σ0 σ) (hQ : ∀ r, Q r) : zq (zf_Space_isLast_c1 σ x1) Q := by
  unfold zf_Space_isLast_c1
  refine zq_bind (q_f_Space_has_c1 hJ fun r1 pr1 => ?_)
  refine zq_ite (fun c1 => ?_) fun c1 => ?_
  ·
    exact hQ _
  ·
    refine zq_chk (by (first | with_reducible assumption | omega | grind)) fun c2 => ?_
    refine zq_ite (fun c3 => ?_) fun c3 => ?_
    ·
      exact hQ _
    ·
      exact hQ _

theorem q_f_Numbers_get_c7 {σ0 : zS} {σ : zS} {x1 : Int32} {Q : (Int32) → Prop} (hJ : JX σ0 σ) (hQ : ∀ r, Q r) : zq (zf_Numbers_get_c7 σ x1) Q := by
  unfold zf_Numbers_get_c7
  refine zq_ite (fun c1 => ?_) fun c1 => ?_
  ·
    show zq (zb_Numbers_get_c7_21 σ) Q
    unfold zb_Numbers_get_c7_21
    exact hQ _
  ·
    refine zq_ite (fun c2 => ?_) fun c2 => ?_
    ·
      show zq (zb_Numbers_get_c7_21 σ) Q
      unfold zb_Numbers_get_c7_21
      exact hQ _
    ·
      refine zq_ite (fun c3 => ?_) fun c3 => ?_
      ·
        refine zq_chk (by (first | with_reducible assumption | omega | grind)) fun c4 => ?_
        exact hQ _
      ·
        show zq (zb_Numbers_get_c7_21 σ) Q
        unfold zb_Numbers_get_c7_21
        exact hQ _

theorem q_b_Outcomes_slotOf_c1_19 {N : Nat} (hN : zBig ≤ N) {σ0 : zS} {σ : zS} {v1 : Int32} {Q : (Int32) → Prop} (hJ : JX σ0 σ) (hQ : ∀ r, (0 ≤ r ∧ r < 8192) → Q r) : ∀ (n : Nat) (v3 : Int32) (v4 : Int32), ((0 ≤ v3 ∧ v3 < 8192) ∧ 0 ≤ v4) → zmu v4 < n → zq (zb_Outcomes_slotOf_c1_19 N n σ v1 v3 v4) Q := by
  intro n
  induction n with
  | zero => intro _ _ _ hn; exact absurd hn (Nat.not_lt_zero _)
  | succ n ih =>
    intro v3 v4 hI hn
    rw [zb_Outcomes_slotOf_c1_19]
    refine zq_ite (fun c1 => ?_) fun c1 => ?_
    ·
      exact hQ _ (by (first | with_reducible assumption | omega | grind))
    ·
      refine zq_chk (by (first | with_reducible assumption | omega | grind)) fun c2 => ?_
      refine zq_ite (fun c3 => ?_) fun c3 => ?_
      ·
        exact hQ _ (by (first | with_reducible assumption | omega | grind))
      ·
        refine zq_chk (by (first | with_reducible assumption | omega | grind)) fun c4 => ?_
        refine zq_bind (q_f_Numbers_get_c7 hJ fun r5 => ?_)
        refine zq_ite (fun c5 => ?_) fun c5 => ?_
        ·
          exact ih ((v3 + 1) &&& 8191) (v4 + 1) (by have := z_and (v3 + 1) 8191 (by decide); have := z_and (v3 + 1) 8191 (by decide); (first | with_reducible assumption | omega | grind)) (by first | exact zmu_up (by assumption) hn | exact zmu_up (b := 2147483647) (by (first | with_reducible assumption | omega | grind)) hn | (first | with_reducible assumption | omega | grind))
        ·
          exact hQ _ (by (first | with_reducible assumption | omega | grind))

theorem q_f_Outcomes_slotOf_c1 {N : Nat} (hN : zBig ≤ N) {σ0 : zS} {σ : zS} {x1 : Int32} {Q : (Int32) → Prop} (hJ : JX σ0 σ) (hQ : ∀ r, (0 ≤ r ∧ r < 8192) → Q r) : zq (zf_Outcomes_slotOf_c1 N σ x1) Q := by
  unfold zf_Outcomes_slotOf_c1
  exact q_b_Outcomes_slotOf_c1_19 hN hJ hQ N (((x1 * (-1640531535)) ^^^ (zJ_ushr (x1 * (-1640531535)) 15)) &&& 8191) 0 (by have := z_and ((x1 * (-1640531535)) ^^^ (zJ_ushr (x1 * (-1640531535)) 15)) 8191 (by decide); have := z_and ((x1 * (-1640531535)) ^^^ (zJ_ushr (x1 * (-1640531535)) 15)) 8191 (by decide); (first | with_reducible assumption | omega | grind)) (by exact zmu_lt hN _)

theorem q_f_Numbers_add_c7 {σ0 : zS} {σ : zS} {x1 : Int32} {Q : (zS) → Prop} (hJ : JX σ0 σ) (hQ : ∀ r, JX σ0 r → Q r) : zq (zf_Numbers_add_c7 σ x1) Q := by
  unfold zf_Numbers_add_c7
  refine zq_ite (fun c1 => ?_) fun c1 => ?_
  ·
    exact hQ _ hJ
  ·
    refine zq_ite (fun c2 => ?_) fun c2 => ?_
    ·
      exact hQ _ hJ
    ·
      refine zq_chk (by (first | with_reducible assumption | omega | grind)) fun c3 => ?_
      exact hQ _ (JX.up (by decide) (JX.up (by decide) hJ))

theorem q_f_Numbers_add_c8 {σ0 : zS} {σ : zS} {x1 : Int32} {Q : (zS) → Prop} (hJ : JX σ0 σ) (hQ : ∀ r, JX σ0 r → Q r) : zq (zf_Numbers_add_c8 σ x1) Q := by
  unfold zf_Numbers_add_c8
  refine zq_ite (fun c1 => ?_) fun c1 => ?_
  ·
    exact hQ _ hJ
  ·
    refine zq_ite (fun c2 => ?_) fun c2 => ?_
    ·
      exact hQ _ hJ
    ·
      refine zq_chk (by (first | with_reducible assumption | omega | grind)) fun c3 => ?_
      exact hQ _ (JX.up (by decide) (JX.up (by decide) hJ))

theorem q_f_Outcomes_note_c1 {N : Nat} (hN : zBig ≤ N) {σ0 : zS} {σ : zS} {x1 : Int32} {x2 : Int32} {Q : (zS) → Prop} (hJ : JX σ0 σ) (hQ : ∀ r, JX σ0 r → Q r) : zq (zf_Outcomes_note_c1 N σ x1 x2) Q := by
  unfold zf_Outcomes_note_c1
  refine zq_bind (q_f_Outcomes_slotOf_c1 hN hJ fun r1 pr1 => ?_)
  refine zq_chk (by (first | with_reducible assumption | omega | grind)) fun c1 => ?_
  refine zq_ite (fun c2 => ?_) fun c2 => ?_
  ·
    exact hQ _ hJ
  ·
    refine zq_bind (q_f_Numbers_add_c7 hJ fun r4 jr4 => ?_)
    refine zq_bind (q_f_Numbers_add_c8 jr4 fun r5 jr5 => ?_)
    refine zq_chk (by (first | with_reducible assumption | omega | grind)) fun c3 => ?_
    exact hQ _ (JX.up (by decide) jr5)

theorem q_b_Outcomes_gather_c1_24 {N : Nat} (hN : zBig ≤ N) {σ0 : zS} {Q : (zS) → Prop} (hQ : ∀ r, JX σ0 r → Q r) : ∀ (n : Nat) (σ : zS) (v2 : Int32), JX σ0 σ → (0 ≤ v2) → zmu v2 < n → zq (zb_Outcomes_gather_c1_24 N n σ v2) Q := by
  intro n
  induction n with
  | zero => intro _ _ _ _ hn; exact absurd hn (Nat.not_lt_zero _)
  | succ n ih =>
    intro σ v2 hJ hI hn
    rw [zb_Outcomes_gather_c1_24]
    refine zq_ite (fun c1 => ?_) fun c1 => ?_
    ·
      exact hQ _ hJ
    ·
      refine zq_bind (q_f_Space_isLast_c1 hJ fun r5 => ?_)
      refine zq_ite (fun c2 => ?_) fun c2 => ?_
      ·
        show zq (zb_Outcomes_gather_c1_57 (zb_Outcomes_gather_c1_24 N n) N σ v2) Q
        unfold zb_Outcomes_gather_c1_57
        exact ih σ (v2 + 1) hJ (by (first | with_reducible assumption | omega | grind)) (by first | exact zmu_up (by assumption) hn | exact zmu_up (b := 2147483647) (by (first | with_reducible assumption | omega | grind)) hn | (first | with_reducible assumption | omega | grind))
      ·
        refine zq_bind (q_f_Space_load_c1 hN hJ fun r7 jr7 => ?_)
        refine zq_bind (q_f_Machine_outcome hN jr7 fun r8 => ?_)
        refine zq_bind (q_f_Outcomes_note_c1 hN jr7 fun r9 jr9 => ?_)
        show zq (zb_Outcomes_gather_c1_57 (zb_Outcomes_gather_c1_24 N n) N r9 v2) Q
        unfold zb_Outcomes_gather_c1_57
        exact ih r9 (v2 + 1) jr9 (by (first | with_reducible assumption | omega | grind)) (by first | exact zmu_up (by assumption) hn | exact zmu_up (b := 2147483647) (by (first | with_reducible assumption | omega | grind)) hn | (first | with_reducible assumption | omega | grind))
theorem q_f_Outcomes_gather_c1 {N : Nat} (hN : zBig ≤ N) {σ0 : zS} {σ : zS} {Q : (zS) → Prop} (hJ : JX σ0 σ) (hQ : ∀ r, JX σ0 r → Q r) : zq (zf_Outcomes_gather_c1 N σ) Q := by
  unfold zf_Outcomes_gather_c1
  refine zq_bind (q_f_Numbers_clear_c7 hJ fun r1 jr1 => ?_)
  refine zq_bind (q_f_Numbers_clear_c8 jr1 fun r2 jr2 => ?_)
  refine zq_bind (q_f_Arrays_fill_c8 hN jr2 fun r3 jr3 => ?_)
  exact q_b_Outcomes_gather_c1_24 hN hQ N r3 0 jr3 (by (first | with_reducible assumption | omega | grind)) (by exact zmu_lt hN _)

theorem q_b_Outcomes_isSameAs_21 {N : Nat} (hN : zBig ≤ N) {σ0 : zS} {σ : zS} {Q : (Int32) → Prop} (hJ : JX σ0 σ) (hQ : ∀ r, Q r) : ∀ (n : Nat) (v2 : Int32), (0 ≤ v2) → zmu v2 < n → zq (zb_Outcomes_isSameAs_21 N n σ v2) Q := by
  intro n
  induction n with
  | zero => intro _ _ hn; exact absurd hn (Nat.not_lt_zero _)
  | succ n ih =>
    intro v2 hI hn
    rw [zb_Outcomes_isSameAs_21]
    refine zq_ite (fun c1 => ?_) fun c1 => ?_
    ·
      exact hQ _
    ·
      refine zq_bind (q_f_Numbers_get hJ fun r3 => ?_)
      refine zq_bind (q_f_Outcomes_slotOf_c1 hN hJ fun r4 pr4 => ?_)
      refine zq_chk (by (first | with_reducible assumption | omega | grind)) fun c2 => ?_
      refine zq_ite (fun c3 => ?_) fun c3 => ?_
      ·
        exact ih (v2 + 1) (by (first | with_reducible assumption | omega | grind)) (by first | exact zmu_up (by assumption) hn | exact zmu_up (b := 2147483647) (by (first | with_reducible assumption | omega | grind)) hn | (first | with_reducible assumption | omega | grind))
      ·
        exact hQ _

theorem q_f_Outcomes_isSameAs {N : Nat} (hN : zBig ≤ N) {σ0 : zS} {σ : zS} {Q : (Int32) → Prop} (hJ : JX σ0 σ) (hQ : ∀ r, Q r) : zq (zf_Outcomes_isSameAs N σ) Q := by
  unfold zf_Outcomes_isSameAs
  refine zq_ite (fun c1 => ?_) fun c1 => ?_
  ·
    exact q_b_Outcomes_isSameAs_21 hN hJ hQ N 0 (by (first | with_reducible assumption | omega | grind)) (by exact zmu_lt hN _)
  ·
    exact hQ _

theorem q_f_X_whole {N : Nat} (hN : zBig ≤ N) {σ0 : zS} {σ : zS} {x1 : Int32} {Q : (Int32 × zS) → Prop} (hJ : JX σ0 σ) (hQ : ∀ r, JX σ0 r.2 → Q r) : zq (zf_X_whole N σ x1) Q := by
  unfold zf_X_whole
  refine zq_ite (fun c1 => ?_) fun c1 => ?_
  ·
    refine zq_ite (fun c2 => ?_) fun c2 => ?_
    ·
      exact hQ _ hJ
    ·
      refine zq_ite (fun c3 => ?_) fun c3 => ?_
      ·
        exact hQ _ hJ
      ·
        refine zq_ite (fun c4 => ?_) fun c4 => ?_
        ·
          refine zq_chk (by (first | with_reducible assumption | omega | grind)) fun c5 => ?_
          refine zq_ite (fun c6 => ?_) fun c6 => ?_
          ·
            show zq (zb_X_whole_102 N σ x1) Q
            unfold zb_X_whole_102
            refine zq_chk (by (first | with_reducible assumption | omega | grind)) fun c7 => ?_
            exact hQ _ hJ
          ·
            refine zq_chk (by (first | with_reducible assumption | omega | grind)) fun c8 => ?_
            refine zq_bind (q_f_Space_explore_c1 hN (JX.up (by decide) hJ) fun r9 jr9 pr9 => ?_)
            refine zq_ite (fun c9 => ?_) fun c9 => ?_
            ·
              show zq (zb_X_whole_102 N r9.2 x1) Q
              unfold zb_X_whole_102
              refine zq_chk (by (first | with_reducible assumption | omega | grind)) fun c10 => ?_
              exact hQ _ jr9
            ·
              refine zq_bind (q_f_Outcomes_gather_c1 hN jr9 fun r11 jr11 => ?_)
              refine zq_bind (q_f_Outcomes_isSameAs hN jr11 fun r12 => ?_)
              refine zq_ite (fun c11 => ?_) fun c11 => ?_
              ·
                show zq (zb_X_whole_101 N r11 x1 0 x1) Q
                unfold zb_X_whole_101
                refine zq_chk (by (first | with_reducible assumption | omega | grind)) fun c12 => ?_
                show zq (zb_X_whole_102 N (zx_up r11 75 x1.toNatClampNeg 0) x1) Q
                unfold zb_X_whole_102
                refine zq_chk (by (first | with_reducible assumption | omega | grind)) fun c13 => ?_
                exact hQ _ (JX.up (by decide) jr11)
              ·
                show zq (zb_X_whole_101 N r11 x1 1 x1) Q
                unfold zb_X_whole_101
                refine zq_chk (by (first | with_reducible assumption | omega | grind)) fun c14 => ?_
                show zq (zb_X_whole_102 N (zx_up r11 75 x1.toNatClampNeg 1) x1) Q
                unfold zb_X_whole_102
                refine zq_chk (by (first | with_reducible assumption | omega | grind)) fun c15 => ?_
                exact hQ _ (JX.up (by decide) jr11)
        ·
          exact hQ _ hJ
  ·
    exact hQ _ hJ

theorem q_f_Numbers_clear_c9 {σ0 : zS} {σ : zS} {Q : (zS) → Prop} (hJ : JX σ0 σ) (hQ : ∀ r, JX σ0 r → Q r) : zq (zf_Numbers_clear_c9 σ) Q := by
  unfold zf_Numbers_clear_c9
  exact hQ _ (JX.up (by decide) hJ)

theorem q_f_Judge_canMeet {σ0 : zS} {σ : zS} {x1 : Int32} {x2 : Int32} {x3 : Int32} {x4 : Int32} {Q : (Int32) → Prop} (hJ : JX σ0 σ) (hQ : ∀ r, Q r) : zq (zf_Judge_canMeet σ x1 x2 x3 x4) Q := by
  unfold zf_Judge_canMeet
  refine zq_ite (fun c1 => ?_) fun c1 => ?_
  ·
    exact hQ _
  ·
    refine zq_ite (fun c2 => ?_) fun c2 => ?_
    ·
      exact hQ _
    ·
      refine zq_ite (fun c3 => ?_) fun c3 => ?_
      ·
        exact hQ _
      ·
        refine zq_ite (fun c4 => ?_) fun c4 => ?_
        ·
          refine zq_chk (by (first | with_reducible assumption | omega | grind)) fun c5 => ?_
          refine zq_chk (by (first | with_reducible assumption | omega | grind)) fun c6 => ?_
          refine zq_ite (fun c7 => ?_) fun c7 => ?_
          ·
            exact hQ _
          ·
            exact hQ _
        ·
          exact hQ _

theorem q_f_Judge_isDoubtful {σ0 : zS} {σ : zS} {x1 : Int32} {x2 : Int32} {x3 : Int32} {x4 : Int32} {Q : (Int32) → Prop} (hJ : JX σ0 σ) (hQ : ∀ r, Q r) : zq (zf_Judge_isDoubtful σ x1 x2 x3 x4) Q := by
  unfold zf_Judge_isDoubtful
  refine zq_bind (q_f_Program_slotOf hJ fun r1 pr1 => ?_)
  refine zq_bind (q_f_Program_slotOf hJ fun r2 pr2 => ?_)
  refine zq_bind (q_f_Program_clash hJ fun r3 => ?_)
  refine zq_ite (fun c1 => ?_) fun c1 => ?_
  ·
    exact hQ _
  ·
    refine zq_chk (by (first | with_reducible assumption | omega | grind)) fun c2 => ?_
    refine zq_chk (by (first | with_reducible assumption | omega | grind)) fun c3 => ?_
    refine zq_ite (fun c4 => ?_) fun c4 => ?_
    ·
      exact hQ _
    ·
      refine zq_bind (q_f_Judge_canMeet hJ fun r8 => ?_)
      refine zq_ite (fun c5 => ?_) fun c5 => ?_
      ·
        exact hQ _
      ·
        exact hQ _

theorem q_f_Numbers_add_c9 {σ0 : zS} {σ : zS} {x1 : Int32} {Q : (zS) → Prop} (hJ : JX σ0 σ) (hQ : ∀ r, JX σ0 r → Q r) : zq (zf_Numbers_add_c9 σ x1) Q := by
  unfold zf_Numbers_add_c9
  refine zq_ite (fun c1 => ?_) fun c1 => ?_
  ·
    exact hQ _ hJ
  ·
    refine zq_ite (fun c2 => ?_) fun c2 => ?_
    ·
      exact hQ _ hJ
    ·
      refine zq_chk (by (first | with_reducible assumption | omega | grind)) fun c3 => ?_
      exact hQ _ (JX.up (by decide) (JX.up (by decide) hJ))

theorem q_b_Judge_listDoubts_27 {N : Nat} (hN : zBig ≤ N) {k9 : zS → Int32 → Option (zS)} {σ0 : zS} {v1 : Int32} {v2 : Int32} {Q : (zS) → Prop} (hk9_0 : ∀ (y0 : zS), JX σ0 y0 → zq (k9 y0 (v1 + 1)) Q) : ∀ (n : Nat) (σ : zS) (v3 : Int32), JX σ0 σ → zmu v3 < n → zq (zb_Judge_listDoubts_27 k9 N n σ v1 v2 v3) Q := by
  intro n
  induction n with
  | zero => intro _ _ _ hn; exact absurd hn (Nat.not_lt_zero _)
  | succ n ih =>
    intro σ v3 hJ hn
    rw [zb_Judge_listDoubts_27]
    refine zq_ite (fun c1 => ?_) fun c1 => ?_
    ·
      exact hk9_0 σ hJ
    ·
      refine zq_bind (q_f_Judge_isDoubtful hJ fun r4 => ?_)
      refine zq_ite (fun c2 => ?_) fun c2 => ?_
      ·
        show zq (zb_Judge_listDoubts_66 (zb_Judge_listDoubts_27 k9 N n) N σ v1 v2 v3) Q
        unfold zb_Judge_listDoubts_66
        exact ih σ (v3 + 1) hJ (by first | exact zmu_up (by assumption) hn | exact zmu_up (b := 2147483647) (by (first | with_reducible assumption | omega | grind)) hn | (first | with_reducible assumption | omega | grind))
      ·
        refine zq_bind (q_f_Numbers_add_c9 hJ fun r6 jr6 => ?_)
        show zq (zb_Judge_listDoubts_66 (zb_Judge_listDoubts_27 k9 N n) N r6 v1 v2 v3) Q
        unfold zb_Judge_listDoubts_66
        exact ih r6 (v3 + 1) jr6 (by first | exact zmu_up (by assumption) hn | exact zmu_up (b := 2147483647) (by (first | with_reducible assumption | omega | grind)) hn | (first | with_reducible assumption | omega | grind))

theorem q_b_Judge_listDoubts_9 {N : Nat} (hN : zBig ≤ N) {σ0 : zS} {Q : (zS) → Prop} (hQ : ∀ r, JX σ0 r → Q r) : ∀ (n : Nat) (σ : zS) (v1 : Int32), JX σ0 σ → (0 ≤ v1) → zmu v1 < n → zq (zb_Judge_listDoubts_9 N n σ v1) Q := by
  intro n
  induction n with
  | zero => intro _ _ _ _ hn; exact absurd hn (Nat.not_lt_zero _)
  | succ n ih =>
    intro σ v1 hJ hI hn
    rw [zb_Judge_listDoubts_9]
    refine zq_ite (fun c1 => ?_) fun c1 => ?_
    ·
      exact hQ _ hJ
    ·
      exact q_b_Judge_listDoubts_27 hN (fun y0 jy => ih y0 (v1 + 1) jy (by (first | with_reducible assumption | omega | grind)) (by first | exact zmu_up (by assumption) hn | exact zmu_up (b := 2147483647) (by (first | with_reducible assumption | omega | grind)) hn | (first | with_reducible assumption | omega | grind))) N σ (((v1 / 24) + 1) * 24) hJ (by exact zmu_lt hN _)

theorem q_f_Judge_listDoubts {N : Nat} (hN : zBig ≤ N) {σ0 : zS} {σ : zS} {Q : (zS) → Prop} (hJ : JX σ0 σ) (hQ : ∀ r, JX σ0 r → Q r) : zq (zf_Judge_listDoubts N σ) Q := by
  unfold zf_Judge_listDoubts
  refine zq_bind (q_f_Numbers_clear_c9 hJ fun r1 jr1 => ?_)
  exact q_b_Judge_listDoubts_9 hN hQ N r1 0 jr1 (by (first | with_reducible assumption | omega | grind)) (by exact zmu_lt hN _)

theorem q_b_Judge_fitsRing_3 {N : Nat} (hN : zBig ≤ N) {σ0 : zS} {σ : zS} {v1 : Int32} {v2 : Int32} {v3 : Int32} {Q : (Int32) → Prop} (hJ : JX σ0 σ) (hQ : ∀ r, Q r) : ∀ (n : Nat) (v4 : Int32), (0 ≤ v4) → zmu v4 < n → zq (zb_Judge_fitsRing_3 N n σ v1 v2 v3 v4) Q := by
  intro n
  induction n with
  | zero => intro _ _ hn; exact absurd hn (Nat.not_lt_zero _)
  | succ n ih =>
    intro v4 hI hn
    rw [zb_Judge_fitsRing_3]
    refine zq_ite (fun c1 => ?_) fun c1 => ?_
    ·
      exact hQ _
    ·
      refine zq_ite (fun c2 => ?_) fun c2 => ?_
      ·
        exact hQ _
      ·
        refine zq_chk (by (first | with_reducible assumption | omega | grind)) fun c3 => ?_
        refine zq_ite (fun c4 => ?_) fun c4 => ?_
        ·
          exact hQ _
        ·
          refine zq_chk (by (first | with_reducible assumption | omega | grind)) fun c5 => ?_
          refine zq_bind (q_f_Judge_canMeet hJ fun r6 => ?_)
          refine zq_ite (fun c6 => ?_) fun c6 => ?_
          ·
            exact ih (v4 + 1) (by (first | with_reducible assumption | omega | grind)) (by first | exact zmu_up (by assumption) hn | exact zmu_up (b := 2147483647) (by (first | with_reducible assumption | omega | grind)) hn | (first | with_reducible assumption | omega | grind))
          ·
            exact hQ _

theorem q_f_Judge_fitsRing {N : Nat} (hN : zBig ≤ N) {σ0 : zS} {σ : zS} {x1 : Int32} {x2 : Int32} {x3 : Int32} {Q : (Int32) → Prop} (hJ : JX σ0 σ) (hQ : ∀ r, Q r) : zq (zf_Judge_fitsRing N σ x1 x2 x3) Q := by
  unfold zf_Judge_fitsRing
  exact q_b_Judge_fitsRing_3 hN hJ hQ N 0 (by (first | with_reducible assumption | omega | grind)) (by exact zmu_lt hN _)

theorem q_b_Judge_countRingsWith_6 {N : Nat} (hN : zBig ≤ N) {kr : zS → Int32 → Int32 → Option (Int32 × zS)} {σ0 : zS} {v1 : Int32} {v2 : Int32} {v3 : Int32} {v4 : Int32} {Q : (Int32 × zS) → Prop} (hkr : v1 < 4 → ∀ (y : zS) (y2 : Int32) {Q' : Int32 × zS → Prop}, JX σ0 y → (∀ r : Int32 × zS, JX σ0 r.2 → Q' r) → zq (kr y (v1 + 1) y2) Q') (hQ : ∀ r, JX σ0 r.2 → Q r) : ∀ (n : Nat) (σ : zS) (v5 : Int32) (v6 : Int32), JX σ0 σ → ((0 < v1) ∧ 0 ≤ v6) → zmu v6 < n → zq (zb_Judge_countRingsWith_6 kr N n σ v1 v2 v3 v4 v5 v6) Q := by
  intro n
  induction n with
  | zero => intro _ _ _ _ _ hn; exact absurd hn (Nat.not_lt_zero _)
  | succ n ih =>
    intro σ v5 v6 hJ hI hn
    rw [zb_Judge_countRingsWith_6]
    refine zq_bind (q_f_Program_lengthOf hJ fun r1 => ?_)
    refine zq_ite (fun c1 => ?_) fun c1 => ?_
    ·
      exact hQ _ hJ
    ·
      refine zq_ite (fun c2 => ?_) fun c2 => ?_
      ·
        exact hQ _ hJ
      ·
        refine zq_bind (q_f_Program_slotOf hJ fun r4 pr4 => ?_)
        refine zq_chk (by (first | with_reducible assumption | omega | grind)) fun c3 => ?_
        refine zq_chk (by (first | with_reducible assumption | omega | grind)) fun c4 => ?_
        refine zq_ite (fun c5 => ?_) fun c5 => ?_
        ·
          show zq (zb_Judge_countRingsWith_116 kr (zb_Judge_countRingsWith_6 kr N n) N σ v1 v2 v3 v4 v5 v6) Q
          unfold zb_Judge_countRingsWith_116
          exact ih σ v5 (v6 + 1) hJ (by (first | with_reducible assumption | omega | grind)) (by first | exact zmu_up (by assumption) hn | exact zmu_up (b := 2147483647) (by (first | with_reducible assumption | omega | grind)) hn | (first | with_reducible assumption | omega | grind))
        ·
          refine zq_ite (fun c6 => ?_) fun c6 => ?_
          ·
            show zq (zb_Judge_countRingsWith_116 kr (zb_Judge_countRingsWith_6 kr N n) N σ v1 v2 v3 v4 v5 v6) Q
            unfold zb_Judge_countRingsWith_116
            exact ih σ v5 (v6 + 1) hJ (by (first | with_reducible assumption | omega | grind)) (by first | exact zmu_up (by assumption) hn | exact zmu_up (b := 2147483647) (by (first | with_reducible assumption | omega | grind)) hn | (first | with_reducible assumption | omega | grind))
          ·
            refine zq_ite (fun c7 => ?_) fun c7 => ?_
            ·
              show zq (zb_Judge_countRingsWith_116 kr (zb_Judge_countRingsWith_6 kr N n) N σ v1 v2 v3 v4 v5 v6) Q
              unfold zb_Judge_countRingsWith_116
              exact ih σ v5 (v6 + 1) hJ (by (first | with_reducible assumption | omega | grind)) (by first | exact zmu_up (by assumption) hn | exact zmu_up (b := 2147483647) (by (first | with_reducible assumption | omega | grind)) hn | (first | with_reducible assumption | omega | grind))
            ·
              refine zq_bind (q_f_Judge_fitsRing hN hJ fun r10 => ?_)
              refine zq_ite (fun c8 => ?_) fun c8 => ?_
              ·
                show zq (zb_Judge_countRingsWith_116 kr (zb_Judge_countRingsWith_6 kr N n) N σ v1 v2 v3 v4 v5 v6) Q
                unfold zb_Judge_countRingsWith_116
                exact ih σ v5 (v6 + 1) hJ (by (first | with_reducible assumption | omega | grind)) (by first | exact zmu_up (by assumption) hn | exact zmu_up (b := 2147483647) (by (first | with_reducible assumption | omega | grind)) hn | (first | with_reducible assumption | omega | grind))
              ·
                refine zq_chk (by (first | with_reducible assumption | omega | grind)) fun c9 => ?_
                refine zq_bind (hkr (by (first | with_reducible assumption | omega | grind)) _ _ (JX.up78 (by (first | with_reducible assumption | omega | grind)) hJ) fun r13 jr13 => ?_)
                show zq (zb_Judge_countRingsWith_116 kr (zb_Judge_countRingsWith_6 kr N n) N r13.2 v1 v2 v3 v4 (v5 + r13.1) v6) Q
                unfold zb_Judge_countRingsWith_116
                exact ih r13.2 (v5 + r13.1) (v6 + 1) jr13 (by (first | with_reducible assumption | omega | grind)) (by first | exact zmu_up (by assumption) hn | exact zmu_up (b := 2147483647) (by (first | with_reducible assumption | omega | grind)) hn | (first | with_reducible assumption | omega | grind))

theorem q_f_Judge_countRingsWith {N : Nat} (hN : zBig ≤ N) {kr : zS → Int32 → Int32 → Option (Int32 × zS)} {σ0 : zS} {σ : zS} {x1 : Int32} {x2 : Int32} {x3 : Int32} {x4 : Int32} {Q : (Int32 × zS) → Prop} (hJ : JX σ0 σ) (hP : 0 < x1) (hkr : x1 < 4 → ∀ (y : zS) (y2 : Int32) {Q' : Int32 × zS → Prop}, JX σ0 y → (∀ r : Int32 × zS, JX σ0 r.2 → Q' r) → zq (kr y (x1 + 1) y2) Q') (hQ : ∀ r, JX σ0 r.2 → Q r) : zq (zf_Judge_countRingsWith kr N σ x1 x2 x3 x4) Q := by
  unfold zf_Judge_countRingsWith
  exact q_b_Judge_countRingsWith_6 hN hkr hQ N σ 0 0 hJ (by (first | with_reducible assumption | omega | grind)) (by exact zmu_lt hN _)

theorem q_b_Judge_countRingsFrom_69 {N : Nat} (hN : zBig ≤ N) {kr : zS → Int32 → Int32 → Option (Int32 × zS)} {σ0 : zS} {v1 : Int32} {v2 : Int32} {v4 : Int32} {Q : (Int32 × zS) → Prop} (hI : 0 < v1) (hkr : v1 < 4 → ∀ (y : zS) (y2 : Int32) {Q' : Int32 × zS → Prop}, JX σ0 y → (∀ r : Int32 × zS, JX σ0 r.2 → Q' r) → zq (kr y (v1 + 1) y2) Q') (hQ : ∀ r, JX σ0 r.2 → Q r) : ∀ (n : Nat) (σ : zS) (v5 : Int32) (v6 : Int32), JX σ0 σ → zmu v6 < n → zq (zb_Judge_countRingsFrom_69 kr N n σ v1 v2 v4 v5 v6) Q := by
  intro n
  induction n with
  | zero => intro _ _ _ _ hn; exact absurd hn (Nat.not_lt_zero _)
  | succ n ih =>
    intro σ v5 v6 hJ hn
    rw [zb_Judge_countRingsFrom_69]
    refine zq_ite (fun c1 => ?_) fun c1 => ?_
    ·
      exact hQ _ hJ
    ·
      refine zq_bind (q_f_Judge_countRingsWith hN hJ (by (first | with_reducible assumption | omega | grind)) hkr fun r7 jr7 => ?_)
      exact ih r7.2 (v5 + r7.1) (v6 + 1) jr7 (by first | exact zmu_up (by assumption) hn | exact zmu_up (b := 2147483647) (by (first | with_reducible assumption | omega | grind)) hn | (first | with_reducible assumption | omega | grind))

theorem q_f_Judge_countRingsFromB {N : Nat} (hN : zBig ≤ N) {kr : zS → Int32 → Int32 → Option (Int32 × zS)} {σ0 : zS} {σ : zS} {x1 : Int32} {x2 : Int32} {Q : (Int32 × zS) → Prop} (hJ : JX σ0 σ) (hkr : x1 < 4 → ∀ (y : zS) (y2 : Int32) {Q' : Int32 × zS → Prop}, JX σ0 y → (∀ r : Int32 × zS, JX σ0 r.2 → Q' r) → zq (kr y (x1 + 1) y2) Q') (hQ : ∀ r, JX σ0 r.2 → Q r) : zq (zf_Judge_countRingsFromB kr N σ x1 x2) Q := by
  unfold zf_Judge_countRingsFromB
  refine zq_ite (fun c1 => ?_) fun c1 => ?_
  ·
    exact hQ _ hJ
  ·
    refine zq_ite (fun c2 => ?_) fun c2 => ?_
    ·
      refine zq_chk (by (first | with_reducible assumption | omega | grind)) fun c3 => ?_
      refine zq_chk (by have := (hJ).rr (x1 - 1).toNatClampNeg; (first | with_reducible assumption | omega | grind)) fun c4 => ?_
      refine zq_ite (fun c5 => ?_) fun c5 => ?_
      ·
        show zq (zb_Judge_countRingsFrom_59 kr N σ x1 x2 (σ 78 0) (σ 8 (σ 78 (x1 - 1).toNatClampNeg).toNatClampNeg) 0) Q
        unfold zb_Judge_countRingsFrom_59
        exact q_b_Judge_countRingsFrom_69 hN (by have := (hJ).rr (x1 - 1).toNatClampNeg; have := (hJ).rr 0; have := z_div (σ 78 0) 24; have := z_d24 (σ 78 0); (first | with_reducible assumption | omega | grind)) hkr hQ N σ 0 (((σ 78 0) / 24) + 1) hJ (by exact zmu_lt hN _)
      ·
        refine zq_chk (by have := (hJ).rr 0; (first | with_reducible assumption | omega | grind)) fun c6 => ?_
        show zq (zb_Judge_countRingsFrom_59 kr N σ x1 x2 (σ 78 0) (σ 8 (σ 78 (x1 - 1).toNatClampNeg).toNatClampNeg) ((zJ_ushr (σ 11 (σ 78 0).toNatClampNeg) (σ 8 (σ 78 (x1 - 1).toNatClampNeg).toNatClampNeg)) &&& 1)) Q
        unfold zb_Judge_countRingsFrom_59
        exact q_b_Judge_countRingsFrom_69 hN (by have := (hJ).rr (x1 - 1).toNatClampNeg; have := (hJ).rr 0; have := z_and (zJ_ushr (σ 11 (σ 78 0).toNatClampNeg) (σ 8 (σ 78 (x1 - 1).toNatClampNeg).toNatClampNeg)) 1 (by decide); have := z_div (σ 78 0) 24; have := z_d24 (σ 78 0); (first | with_reducible assumption | omega | grind)) hkr hQ N σ ((zJ_ushr (σ 11 (σ 78 0).toNatClampNeg) (σ 8 (σ 78 (x1 - 1).toNatClampNeg).toNatClampNeg)) &&& 1) (((σ 78 0) / 24) + 1) hJ (by exact zmu_lt hN _)
    ·
      exact hQ _ hJ

theorem q_f_Judge_countRingsFrom {N : Nat} (hN : zBig ≤ N) {σ0 : zS} : ∀ (n : Nat) (σ : zS) (x1 : Int32) (x2 : Int32) {Q : Int32 × zS → Prop}, JX σ0 σ → (5 ≤ x1.toInt + n ∧ 0 < n) → (∀ r : Int32 × zS, JX σ0 r.2 → Q r) → zq (zf_Judge_countRingsFrom N n σ x1 x2) Q := by
  intro n
  induction n with
  | zero => intro _ _ _ _ _ hn; omega
  | succ n ih =>
    intro σ x1 x2 Q hJ hn hQ
    rw [zf_Judge_countRingsFrom]
    refine q_f_Judge_countRingsFromB hN hJ (fun h4 y y2 Q' hj hq => ?_) hQ
    have e1 := z_succ h4
    have e2 := Int32.lt_iff_toInt_lt.mp h4
    rw [show (4 : Int32).toInt = 4 from rfl] at e2
    exact ih y (x1 + 1) y2 hj ⟨by omega, by omega⟩ hq

theorem q_b_Judge_countRings_4 {N : Nat} (hN : zBig ≤ N) {σ0 : zS} {Q : (Int32 × zS) → Prop} (hQ : ∀ r, JX σ0 r.2 → Q r) : ∀ (n : Nat) (σ : zS) (v1 : Int32) (v2 : Int32), JX σ0 σ → (0 ≤ v2) → zmu v2 < n → zq (zb_Judge_countRings_4 N n σ v1 v2) Q := by
  intro n
  induction n with
  | zero => intro _ _ _ _ _ hn; exact absurd hn (Nat.not_lt_zero _)
  | succ n ih =>
    intro σ v1 v2 hJ hI hn
    rw [zb_Judge_countRings_4]
    refine zq_ite (fun c1 => ?_) fun c1 => ?_
    ·
      exact hQ _ hJ
    ·
      refine zq_bind (q_f_Program_slotOf hJ fun r2 pr2 => ?_)
      refine zq_chk (by (first | with_reducible assumption | omega | grind)) fun c2 => ?_
      refine zq_ite (fun c3 => ?_) fun c3 => ?_
      ·
        show zq (zb_Judge_countRings_63 (zb_Judge_countRings_4 N n) N σ v1 v2) Q
        unfold zb_Judge_countRings_63
        exact ih σ v1 (v2 + 1) hJ (by (first | with_reducible assumption | omega | grind)) (by first | exact zmu_up (by assumption) hn | exact zmu_up (b := 2147483647) (by (first | with_reducible assumption | omega | grind)) hn | (first | with_reducible assumption | omega | grind))
      ·
        refine zq_chk (by (first | with_reducible assumption | omega | grind)) fun c4 => ?_
        refine zq_bind (q_f_Judge_countRingsFrom hN 5 (zx_up σ 78 0 r2) 1 (σ 11 r2.toNatClampNeg) (JX.up78 (by (first | with_reducible assumption | omega | grind)) hJ) (by exact ⟨by decide, by decide⟩) fun r6 jr6 => ?_)
        show zq (zb_Judge_countRings_63 (zb_Judge_countRings_4 N n) N r6.2 (v1 + r6.1) v2) Q
        unfold zb_Judge_countRings_63
        exact ih r6.2 (v1 + r6.1) (v2 + 1) jr6 (by (first | with_reducible assumption | omega | grind)) (by first | exact zmu_up (by assumption) hn | exact zmu_up (b := 2147483647) (by (first | with_reducible assumption | omega | grind)) hn | (first | with_reducible assumption | omega | grind))

theorem q_f_Judge_countRings {N : Nat} (hN : zBig ≤ N) {σ0 : zS} {σ : zS} {Q : (Int32 × zS) → Prop} (hJ : JX σ0 σ) (hQ : ∀ r, JX σ0 r.2 → Q r) : zq (zf_Judge_countRings N σ) Q := by
  unfold zf_Judge_countRings
  exact q_b_Judge_countRings_4 hN hQ N σ 0 0 hJ (by (first | with_reducible assumption | omega | grind)) (by exact zmu_lt hN _)

theorem q_b_Judge_stepsWith_6 {N : Nat} (hN : zBig ≤ N) {σ0 : zS} {σ : zS} {v1 : Int32} {v2 : Int32} {v3 : Int32} {Q : (Int32) → Prop} (hJ : JX σ0 σ) (hQ : ∀ r, Q r) : ∀ (n : Nat) (v4 : Int32) (v5 : Int32), (0 ≤ v5) → zmu v5 < n → zq (zb_Judge_stepsWith_6 N n σ v1 v2 v3 v4 v5) Q := by
  intro n
  induction n with
  | zero => intro _ _ _ hn; exact absurd hn (Nat.not_lt_zero _)
  | succ n ih =>
    intro v4 v5 hI hn
    rw [zb_Judge_stepsWith_6]
    refine zq_bind (q_f_Program_lengthOf hJ fun r1 => ?_)
    refine zq_ite (fun c1 => ?_) fun c1 => ?_
    ·
      exact hQ _
    ·
      refine zq_bind (q_f_Program_slotOf hJ fun r3 pr3 => ?_)
      refine zq_chk (by (first | with_reducible assumption | omega | grind)) fun c2 => ?_
      refine zq_ite (fun c3 => ?_) fun c3 => ?_
      ·
        show zq (zb_Judge_stepsWith_68 (zb_Judge_stepsWith_6 N n) N σ v1 v2 v3 v4 v5) Q
        unfold zb_Judge_stepsWith_68
        exact ih v4 (v5 + 1) (by (first | with_reducible assumption | omega | grind)) (by first | exact zmu_up (by assumption) hn | exact zmu_up (b := 2147483647) (by (first | with_reducible assumption | omega | grind)) hn | (first | with_reducible assumption | omega | grind))
      ·
        refine zq_chk (by (first | with_reducible assumption | omega | grind)) fun c4 => ?_
        refine zq_ite (fun c5 => ?_) fun c5 => ?_
        ·
          show zq (zb_Judge_stepsWith_68 (zb_Judge_stepsWith_6 N n) N σ v1 v2 v3 v4 v5) Q
          unfold zb_Judge_stepsWith_68
          exact ih v4 (v5 + 1) (by (first | with_reducible assumption | omega | grind)) (by first | exact zmu_up (by assumption) hn | exact zmu_up (b := 2147483647) (by (first | with_reducible assumption | omega | grind)) hn | (first | with_reducible assumption | omega | grind))
        ·
          show zq (zb_Judge_stepsWith_68 (zb_Judge_stepsWith_6 N n) N σ v1 v2 v3 (v4 ||| (zJ_shl 1 v5)) v5) Q
          unfold zb_Judge_stepsWith_68
          exact ih (v4 ||| (zJ_shl 1 v5)) (v5 + 1) (by (first | with_reducible assumption | omega | grind)) (by first | exact zmu_up (by assumption) hn | exact zmu_up (b := 2147483647) (by (first | with_reducible assumption | omega | grind)) hn | (first | with_reducible assumption | omega | grind))

theorem q_f_Judge_stepsWith {N : Nat} (hN : zBig ≤ N) {σ0 : zS} {σ : zS} {x1 : Int32} {x2 : Int32} {x3 : Int32} {Q : (Int32) → Prop} (hJ : JX σ0 σ) (hQ : ∀ r, Q r) : zq (zf_Judge_stepsWith N σ x1 x2 x3) Q := by
  unfold zf_Judge_stepsWith
  exact q_b_Judge_stepsWith_6 hN hJ hQ N 0 0 (by (first | with_reducible assumption | omega | grind)) (by exact zmu_lt hN _)

theorem q_f_Judge_behind {σ0 : zS} {σ : zS} {x1 : Int32} {x2 : Int32} {Q : (Int32) → Prop} (hJ : JX σ0 σ) (hQ : ∀ r, Q r) : zq (zf_Judge_behind σ x1 x2) Q := by
  unfold zf_Judge_behind
  refine zq_bind (q_f_Program_slotOf hJ fun r1 pr1 => ?_)
  refine zq_chk (by (first | with_reducible assumption | omega | grind)) fun c1 => ?_
  refine zq_chk (by (first | with_reducible assumption | omega | grind)) fun c2 => ?_
  refine zq_bind (q_f_Program_lengthOf hJ fun r4 => ?_)
  refine zq_ite (fun c3 => ?_) fun c3 => ?_
  ·
    show zq (zb_Judge_behind_61 σ (σ 10 r1.toNatClampNeg) r4) Q
    unfold zb_Judge_behind_61
    show zq (zb_Judge_behind_62 σ (σ 10 r1.toNatClampNeg) r4 0) Q
    unfold zb_Judge_behind_62
    refine zq_ite (fun c4 => ?_) fun c4 => ?_
    ·
      exact hQ _
    ·
      refine zq_ite (fun c5 => ?_) fun c5 => ?_
      ·
        exact hQ _
      ·
        exact hQ _
  ·
    refine zq_ite (fun c6 => ?_) fun c6 => ?_
    ·
      show zq (zb_Judge_behind_61 σ (σ 10 r1.toNatClampNeg) r4) Q
      unfold zb_Judge_behind_61
      show zq (zb_Judge_behind_62 σ (σ 10 r1.toNatClampNeg) r4 0) Q
      unfold zb_Judge_behind_62
      refine zq_ite (fun c7 => ?_) fun c7 => ?_
      ·
        exact hQ _
      ·
        refine zq_ite (fun c8 => ?_) fun c8 => ?_
        ·
          exact hQ _
        ·
          exact hQ _
    ·
      show zq (zb_Judge_behind_62 σ (σ 10 r1.toNatClampNeg) r4 (zJ_shl 1 (σ 9 r1.toNatClampNeg))) Q
      unfold zb_Judge_behind_62
      refine zq_ite (fun c9 => ?_) fun c9 => ?_
      ·
        exact hQ _
      ·
        refine zq_ite (fun c10 => ?_) fun c10 => ?_
        ·
          exact hQ _
        ·
          exact hQ _

theorem q_b_Judge_spread_20 {N : Nat} (hN : zBig ≤ N) {k6 : zS → Int32 → Int32 → Int32 → Int32 → Option (Int32)} {σ0 : zS} {σ : zS} {v1 : Int32} {v3 : Int32} {v5 : Int32} {v6 : Int32} {Q : (Int32) → Prop} (hJ : JX σ0 σ) (hQ : ∀ r, Q r) (hk6_0 : ∀ (y3 : Int32), zq (k6 σ v1 v3 y3 (v5 + 1)) Q) : ∀ (n : Nat) (v4 : Int32) (v7 : Int32), (0 ≤ v7) → zmu v7 < n → zq (zb_Judge_spread_20 k6 N n σ v1 v3 v4 v5 v6 v7) Q := by
  intro n
  induction n with
  | zero => intro _ _ _ hn; exact absurd hn (Nat.not_lt_zero _)
  | succ n ih =>
    intro v4 v7 hI hn
    rw [zb_Judge_spread_20]
    refine zq_ite (fun c1 => ?_) fun c1 => ?_
    ·
      refine zq_ite (fun c2 => ?_) fun c2 => ?_
      ·
        exact hk6_0 v4 
      ·
        exact hQ _
    ·
      refine zq_ite (fun c3 => ?_) fun c3 => ?_
      ·
        show zq (zb_Judge_spread_53 (zb_Judge_spread_20 k6 N n) N σ v1 v3 v4 v5 v6 v7) Q
        unfold zb_Judge_spread_53
        exact ih v4 (v7 + 1) (by (first | with_reducible assumption | omega | grind)) (by first | exact zmu_up (by assumption) hn | exact zmu_up (b := 2147483647) (by (first | with_reducible assumption | omega | grind)) hn | (first | with_reducible assumption | omega | grind))
      ·
        refine zq_bind (q_f_Judge_behind hJ fun r5 => ?_)
        show zq (zb_Judge_spread_53 (zb_Judge_spread_20 k6 N n) N σ v1 v3 (v4 ||| r5) v5 v6 v7) Q
        unfold zb_Judge_spread_53
        exact ih (v4 ||| r5) (v7 + 1) (by (first | with_reducible assumption | omega | grind)) (by first | exact zmu_up (by assumption) hn | exact zmu_up (b := 2147483647) (by (first | with_reducible assumption | omega | grind)) hn | (first | with_reducible assumption | omega | grind))

theorem q_b_Judge_spread_6 {N : Nat} (hN : zBig ≤ N) {σ0 : zS} {σ : zS} {v1 : Int32} {v3 : Int32} {Q : (Int32) → Prop} (hJ : JX σ0 σ) (hQ : ∀ r, Q r) : ∀ (n : Nat) (v4 : Int32) (v5 : Int32), (0 ≤ v5) → zmu v5 < n → zq (zb_Judge_spread_6 N n σ v1 v3 v4 v5) Q := by
  intro n
  induction n with
  | zero => intro _ _ _ hn; exact absurd hn (Nat.not_lt_zero _)
  | succ n ih =>
    intro v4 v5 hI hn
    rw [zb_Judge_spread_6]
    refine zq_ite (fun c1 => ?_) fun c1 => ?_
    ·
      exact hQ _
    ·
      exact q_b_Judge_spread_20 hN hJ hQ (fun y3 => ih y3 (v5 + 1) (by (first | with_reducible assumption | omega | grind)) (by first | exact zmu_up (by assumption) hn | exact zmu_up (b := 2147483647) (by (first | with_reducible assumption | omega | grind)) hn | (first | with_reducible assumption | omega | grind))) N v4 0 (by (first | with_reducible assumption | omega | grind)) (by exact zmu_lt hN _)

theorem q_f_Judge_spread {N : Nat} (hN : zBig ≤ N) {σ0 : zS} {σ : zS} {x1 : Int32} {x2 : Int32} {x3 : Int32} {Q : (Int32) → Prop} (hJ : JX σ0 σ) (hQ : ∀ r, Q r) : zq (zf_Judge_spread N σ x1 x2 x3) Q := by
  unfold zf_Judge_spread
  exact q_b_Judge_spread_6 hN hJ hQ N x2 0 (by (first | with_reducible assumption | omega | grind)) (by exact zmu_lt hN _)

theorem q_b_Judge_stepsAfter_5 {N : Nat} (hN : zBig ≤ N) {σ0 : zS} {σ : zS} {v1 : Int32} {v2 : Int32} {Q : (Int32) → Prop} (hJ : JX σ0 σ) (hQ : ∀ r, Q r) : ∀ (n : Nat) (v3 : Int32) (v4 : Int32), (0 ≤ v4) → zmu v4 < n → zq (zb_Judge_stepsAfter_5 N n σ v1 v2 v3 v4) Q := by
  intro n
  induction n with
  | zero => intro _ _ _ hn; exact absurd hn (Nat.not_lt_zero _)
  | succ n ih =>
    intro v3 v4 hI hn
    rw [zb_Judge_stepsAfter_5]
    refine zq_ite (fun c1 => ?_) fun c1 => ?_
    ·
      refine zq_bind (q_f_Judge_spread hN hJ fun r2 => ?_)
      exact hQ _
    ·
      refine zq_ite (fun c2 => ?_) fun c2 => ?_
      ·
        show zq (zb_Judge_stepsAfter_31 (zb_Judge_stepsAfter_5 N n) N σ v1 v2 v3 v4) Q
        unfold zb_Judge_stepsAfter_31
        exact ih v3 (v4 + 1) (by (first | with_reducible assumption | omega | grind)) (by first | exact zmu_up (by assumption) hn | exact zmu_up (b := 2147483647) (by (first | with_reducible assumption | omega | grind)) hn | (first | with_reducible assumption | omega | grind))
      ·
        refine zq_bind (q_f_Judge_behind hJ fun r4 => ?_)
        show zq (zb_Judge_stepsAfter_31 (zb_Judge_stepsAfter_5 N n) N σ v1 v2 (v3 ||| r4) v4) Q
        unfold zb_Judge_stepsAfter_31
        exact ih (v3 ||| r4) (v4 + 1) (by (first | with_reducible assumption | omega | grind)) (by first | exact zmu_up (by assumption) hn | exact zmu_up (b := 2147483647) (by (first | with_reducible assumption | omega | grind)) hn | (first | with_reducible assumption | omega | grind))

theorem q_f_Judge_stepsAfter {N : Nat} (hN : zBig ≤ N) {σ0 : zS} {σ : zS} {x1 : Int32} {x2 : Int32} {Q : (Int32) → Prop} (hJ : JX σ0 σ) (hQ : ∀ r, Q r) : zq (zf_Judge_stepsAfter N σ x1 x2) Q := by
  unfold zf_Judge_stepsAfter
  exact q_b_Judge_stepsAfter_5 hN hJ hQ N 0 0 (by (first | with_reducible assumption | omega | grind)) (by exact zmu_lt hN _)

theorem q_b_Judge_stepsNear_16 {N : Nat} (hN : zBig ≤ N) {σ0 : zS} {σ : zS} {v1 : Int32} {v2 : Int32} {s0 : Int32} {Q : (Int32) → Prop} (hJ : JX σ0 σ) (hQ : ∀ r, Q r) : zq (zb_Judge_stepsNear_16 N σ v1 v2 s0) Q := by
  unfold zb_Judge_stepsNear_16
  refine zq_bind (q_f_Judge_stepsWith hN hJ fun r3 => ?_)
  refine zq_bind (q_f_Judge_spread hN hJ fun r4 => ?_)
  refine zq_ite (fun c1 => ?_) fun c1 => ?_
  ·
    exact hQ _
  ·
    refine zq_bind (q_f_Program_startersOf hJ fun r6 => ?_)
    refine zq_ite (fun c2 => ?_) fun c2 => ?_
    ·
      exact hQ _
    ·
      refine zq_bind (q_f_Judge_stepsWith hN hJ fun r8 => ?_)
      refine zq_bind (q_f_Judge_stepsAfter hN hJ fun r9 => ?_)
      exact hQ _

theorem q_f_Judge_stepsNear {N : Nat} (hN : zBig ≤ N) {σ0 : zS} {σ : zS} {x1 : Int32} {x2 : Int32} {Q : (Int32) → Prop} (hJ : JX σ0 σ) (hQ : ∀ r, Q r) : zq (zf_Judge_stepsNear N σ x1 x2) Q := by
  unfold zf_Judge_stepsNear
  refine zq_bind (q_f_Program_lengthOf hJ fun r1 => ?_)
  refine zq_ite (fun c1 => ?_) fun c1 => ?_
  ·
    exact q_b_Judge_stepsNear_16 hN hJ hQ
  ·
    exact q_b_Judge_stepsNear_16 hN hJ hQ

theorem q_b_Judge_prepare_14 {N : Nat} (hN : zBig ≤ N) {σ0 : zS} {Q : (zS) → Prop} (hQ : ∀ r, JX σ0 r → Q r) : ∀ (n : Nat) (σ : zS) (v1 : Int32), JX σ0 σ → (0 ≤ v1) → zmu v1 < n → zq (zb_Judge_prepare_14 N n σ v1) Q := by
  intro n
  induction n with
  | zero => intro _ _ _ _ hn; exact absurd hn (Nat.not_lt_zero _)
  | succ n ih =>
    intro σ v1 hJ hI hn
    rw [zb_Judge_prepare_14]
    refine zq_ite (fun c1 => ?_) fun c1 => ?_
    ·
      refine zq_bind (q_f_Judge_listDoubts hN hJ fun r3 jr3 => ?_)
      refine zq_bind (q_f_Judge_countRings hN jr3 fun r4 jr4 => ?_)
      exact hQ _ (JX.up (by decide) jr4)
    ·
      refine zq_bind (q_f_Judge_stepsNear hN hJ fun r5 => ?_)
      refine zq_chk (by (first | with_reducible assumption | omega | grind)) fun c2 => ?_
      exact ih (zx_up σ 77 v1.toNatClampNeg r5) (v1 + 1) (JX.up (by decide) hJ) (by (first | with_reducible assumption | omega | grind)) (by first | exact zmu_up (by assumption) hn | exact zmu_up (b := 2147483647) (by (first | with_reducible assumption | omega | grind)) hn | (first | with_reducible assumption | omega | grind))

theorem q_f_Judge_prepare {N : Nat} (hN : zBig ≤ N) {σ0 : zS} {σ : zS} {Q : (zS) → Prop} (hJ : JX σ0 σ) (hQ : ∀ r, JX σ0 r → Q r) : zq (zf_Judge_prepare N σ) Q := by
  unfold zf_Judge_prepare
  refine zq_ite (fun c1 => ?_) fun c1 => ?_
  ·
    exact hQ _ hJ
  ·
    exact q_b_Judge_prepare_14 hN hQ N (zx_up σ 76 5 1) 0 (JX.up (by decide) hJ) (by (first | with_reducible assumption | omega | grind)) (by exact zmu_lt hN _)

theorem q_f_X_doubts {N : Nat} (hN : zBig ≤ N) {σ0 : zS} {σ : zS} {Q : (Int32 × zS) → Prop} (hJ : JX σ0 σ) (hQ : ∀ r, JX σ0 r.2 → Q r) : zq (zf_X_doubts N σ) Q := by
  unfold zf_X_doubts
  refine zq_ite (fun c1 => ?_) fun c1 => ?_
  ·
    refine zq_bind (q_f_Judge_prepare hN hJ fun r2 jr2 => ?_)
    exact hQ _ jr2
  ·
    exact hQ _ hJ

theorem q_f_Numbers_get_c8 {σ0 : zS} {σ : zS} {x1 : Int32} {Q : (Int32) → Prop} (hJ : JX σ0 σ) (hQ : ∀ r, Q r) : zq (zf_Numbers_get_c8 σ x1) Q := by
  unfold zf_Numbers_get_c8
  refine zq_ite (fun c1 => ?_) fun c1 => ?_
  ·
    show zq (zb_Numbers_get_c8_21 σ) Q
    unfold zb_Numbers_get_c8_21
    exact hQ _
  ·
    refine zq_ite (fun c2 => ?_) fun c2 => ?_
    ·
      show zq (zb_Numbers_get_c8_21 σ) Q
      unfold zb_Numbers_get_c8_21
      exact hQ _
    ·
      refine zq_ite (fun c3 => ?_) fun c3 => ?_
      ·
        refine zq_chk (by (first | with_reducible assumption | omega | grind)) fun c4 => ?_
        exact hQ _
      ·
        show zq (zb_Numbers_get_c8_21 σ) Q
        unfold zb_Numbers_get_c8_21
        exact hQ _

theorem q_f_X_doubt {N : Nat} (hN : zBig ≤ N) {σ0 : zS} {σ : zS} {x1 : Int32} {x2 : Int32} {Q : (Int32 × zS) → Prop} (hJ : JX σ0 σ) (hQ : ∀ r, JX σ0 r.2 → Q r) : zq (zf_X_doubt N σ x1 x2) Q := by
  unfold zf_X_doubt
  refine zq_ite (fun c1 => ?_) fun c1 => ?_
  ·
    refine zq_bind (q_f_Judge_prepare hN hJ fun r2 jr2 => ?_)
    refine zq_bind (q_f_Numbers_get_c8 jr2 fun r3 => ?_)
    refine zq_bind (q_f_Program_partOfPair jr2 fun r4 => ?_)
    exact hQ _ jr2
  ·
    exact hQ _ hJ

theorem q_f_X_meet {N : Nat} (hN : zBig ≤ N) {σ0 : zS} {σ : zS} {x1 : Int32} {x2 : Int32} {x3 : Int32} {x4 : Int32} {Q : (Int32 × zS) → Prop} (hJ : JX σ0 σ) (hQ : ∀ r, JX σ0 r.2 → Q r) : zq (zf_X_meet N σ x1 x2 x3 x4) Q := by
  unfold zf_X_meet
  refine zq_ite (fun c1 => ?_) fun c1 => ?_
  ·
    refine zq_ite (fun c2 => ?_) fun c2 => ?_
    ·
      exact hQ _ hJ
    ·
      refine zq_bind (q_f_Program_slotOf hJ fun r3 pr3 => ?_)
      refine zq_ite (fun c3 => ?_) fun c3 => ?_
      ·
        exact hQ _ hJ
      ·
        refine zq_bind (q_f_Program_slotOf hJ fun r5 pr5 => ?_)
        refine zq_ite (fun c4 => ?_) fun c4 => ?_
        ·
          refine zq_bind (q_f_Judge_prepare hN hJ fun r7 jr7 => ?_)
          refine zq_bind (q_f_Judge_canMeet jr7 fun r8 => ?_)
          refine zq_ite (fun c5 => ?_) fun c5 => ?_
          ·
            exact hQ _ jr7
          ·
            exact hQ _ jr7
        ·
          exact hQ _ hJ
  ·
    exact hQ _ hJ

theorem q_b_Judge_guardsOf_14 {N : Nat} (hN : zBig ≤ N) {σ0 : zS} {σ : zS} {v1 : Int32} {Q : (Int32) → Prop} (hJ : JX σ0 σ) (hQ : ∀ r, Q r) : ∀ (n : Nat) (v2 : Int32) (v3 : Int32), (0 ≤ v3) → zmu v3 < n → zq (zb_Judge_guardsOf_14 N n σ v1 v2 v3) Q := by
  intro n
  induction n with
  | zero => intro _ _ _ hn; exact absurd hn (Nat.not_lt_zero _)
  | succ n ih =>
    intro v2 v3 hI hn
    rw [zb_Judge_guardsOf_14]
    refine zq_ite (fun c1 => ?_) fun c1 => ?_
    ·
      exact hQ _
    ·
      refine zq_bind (q_f_Program_slotOf hJ fun r2 pr2 => ?_)
      refine zq_chk (by (first | with_reducible assumption | omega | grind)) fun c2 => ?_
      refine zq_ite (fun c3 => ?_) fun c3 => ?_
      ·
        show zq (zb_Judge_guardsOf_64 (zb_Judge_guardsOf_14 N n) N σ v1 v2 v3 r2) Q
        unfold zb_Judge_guardsOf_64
        show zq (zb_Judge_guardsOf_69 (zb_Judge_guardsOf_14 N n) N σ v1 v2 v3 r2 1) Q
        unfold zb_Judge_guardsOf_69
        refine zq_ite (fun c4 => ?_) fun c4 => ?_
        ·
          show zq (zb_Judge_guardsOf_103 (zb_Judge_guardsOf_14 N n) N σ v1 v2 v3) Q
          unfold zb_Judge_guardsOf_103
          exact ih v2 (v3 + 1) (by (first | with_reducible assumption | omega | grind)) (by first | exact zmu_up (by assumption) hn | exact zmu_up (b := 2147483647) (by (first | with_reducible assumption | omega | grind)) hn | (first | with_reducible assumption | omega | grind))
        ·
          refine zq_chk (by (first | with_reducible assumption | omega | grind)) fun c5 => ?_
          refine zq_ite (fun c6 => ?_) fun c6 => ?_
          ·
            show zq (zb_Judge_guardsOf_103 (zb_Judge_guardsOf_14 N n) N σ v1 v2 v3) Q
            unfold zb_Judge_guardsOf_103
            exact ih v2 (v3 + 1) (by (first | with_reducible assumption | omega | grind)) (by first | exact zmu_up (by assumption) hn | exact zmu_up (b := 2147483647) (by (first | with_reducible assumption | omega | grind)) hn | (first | with_reducible assumption | omega | grind))
          ·
            refine zq_chk (by (first | with_reducible assumption | omega | grind)) fun c7 => ?_
            show zq (zb_Judge_guardsOf_103 (zb_Judge_guardsOf_14 N n) N σ v1 (v2 &&& (σ 11 r2.toNatClampNeg)) v3) Q
            unfold zb_Judge_guardsOf_103
            exact ih (v2 &&& (σ 11 r2.toNatClampNeg)) (v3 + 1) (by (first | with_reducible assumption | omega | grind)) (by first | exact zmu_up (by assumption) hn | exact zmu_up (b := 2147483647) (by (first | with_reducible assumption | omega | grind)) hn | (first | with_reducible assumption | omega | grind))
      ·
        refine zq_chk (by (first | with_reducible assumption | omega | grind)) fun c8 => ?_
        refine zq_ite (fun c9 => ?_) fun c9 => ?_
        ·
          show zq (zb_Judge_guardsOf_69 (zb_Judge_guardsOf_14 N n) N σ v1 v2 v3 r2 0) Q
          unfold zb_Judge_guardsOf_69
          refine zq_ite (fun c10 => ?_) fun c10 => ?_
          ·
            show zq (zb_Judge_guardsOf_103 (zb_Judge_guardsOf_14 N n) N σ v1 v2 v3) Q
            unfold zb_Judge_guardsOf_103
            exact ih v2 (v3 + 1) (by (first | with_reducible assumption | omega | grind)) (by first | exact zmu_up (by assumption) hn | exact zmu_up (b := 2147483647) (by (first | with_reducible assumption | omega | grind)) hn | (first | with_reducible assumption | omega | grind))
          ·
            refine zq_chk (by (first | with_reducible assumption | omega | grind)) fun c11 => ?_
            refine zq_ite (fun c12 => ?_) fun c12 => ?_
            ·
              show zq (zb_Judge_guardsOf_103 (zb_Judge_guardsOf_14 N n) N σ v1 v2 v3) Q
              unfold zb_Judge_guardsOf_103
              exact ih v2 (v3 + 1) (by (first | with_reducible assumption | omega | grind)) (by first | exact zmu_up (by assumption) hn | exact zmu_up (b := 2147483647) (by (first | with_reducible assumption | omega | grind)) hn | (first | with_reducible assumption | omega | grind))
            ·
              refine zq_chk (by (first | with_reducible assumption | omega | grind)) fun c13 => ?_
              show zq (zb_Judge_guardsOf_103 (zb_Judge_guardsOf_14 N n) N σ v1 (v2 &&& (σ 11 r2.toNatClampNeg)) v3) Q
              unfold zb_Judge_guardsOf_103
              exact ih (v2 &&& (σ 11 r2.toNatClampNeg)) (v3 + 1) (by (first | with_reducible assumption | omega | grind)) (by first | exact zmu_up (by assumption) hn | exact zmu_up (b := 2147483647) (by (first | with_reducible assumption | omega | grind)) hn | (first | with_reducible assumption | omega | grind))
        ·
          show zq (zb_Judge_guardsOf_64 (zb_Judge_guardsOf_14 N n) N σ v1 v2 v3 r2) Q
          unfold zb_Judge_guardsOf_64
          show zq (zb_Judge_guardsOf_69 (zb_Judge_guardsOf_14 N n) N σ v1 v2 v3 r2 1) Q
          unfold zb_Judge_guardsOf_69
          refine zq_ite (fun c14 => ?_) fun c14 => ?_
          ·
            show zq (zb_Judge_guardsOf_103 (zb_Judge_guardsOf_14 N n) N σ v1 v2 v3) Q
            unfold zb_Judge_guardsOf_103
            exact ih v2 (v3 + 1) (by (first | with_reducible assumption | omega | grind)) (by first | exact zmu_up (by assumption) hn | exact zmu_up (b := 2147483647) (by (first | with_reducible assumption | omega | grind)) hn | (first | with_reducible assumption | omega | grind))
          ·
            refine zq_chk (by (first | with_reducible assumption | omega | grind)) fun c15 => ?_
            refine zq_ite (fun c16 => ?_) fun c16 => ?_
            ·
              show zq (zb_Judge_guardsOf_103 (zb_Judge_guardsOf_14 N n) N σ v1 v2 v3) Q
              unfold zb_Judge_guardsOf_103
              exact ih v2 (v3 + 1) (by (first | with_reducible assumption | omega | grind)) (by first | exact zmu_up (by assumption) hn | exact zmu_up (b := 2147483647) (by (first | with_reducible assumption | omega | grind)) hn | (first | with_reducible assumption | omega | grind))
            ·
              refine zq_chk (by (first | with_reducible assumption | omega | grind)) fun c17 => ?_
              show zq (zb_Judge_guardsOf_103 (zb_Judge_guardsOf_14 N n) N σ v1 (v2 &&& (σ 11 r2.toNatClampNeg)) v3) Q
              unfold zb_Judge_guardsOf_103
              exact ih (v2 &&& (σ 11 r2.toNatClampNeg)) (v3 + 1) (by (first | with_reducible assumption | omega | grind)) (by first | exact zmu_up (by assumption) hn | exact zmu_up (b := 2147483647) (by (first | with_reducible assumption | omega | grind)) hn | (first | with_reducible assumption | omega | grind))
theorem q_f_Judge_guardsOf {N : Nat} (hN : zBig ≤ N) {σ0 : zS} {σ : zS} {x1 : Int32} {Q : (Int32) → Prop} (hJ : JX σ0 σ) (hQ : ∀ r, Q r) : zq (zf_Judge_guardsOf N σ x1) Q := by
  unfold zf_Judge_guardsOf
  exact q_b_Judge_guardsOf_14 hN hJ hQ N ((zJ_shl 1 (σ 4 1)) - 1) 0 (by (first | with_reducible assumption | omega | grind)) (by exact zmu_lt hN _)

theorem q_f_X_guards {N : Nat} (hN : zBig ≤ N) {σ0 : zS} {σ : zS} {x1 : Int32} {Q : (Int32) → Prop} (hJ : JX σ0 σ) (hQ : ∀ r, Q r) : zq (zf_X_guards N σ x1) Q := by
  unfold zf_X_guards
  refine zq_ite (fun c1 => ?_) fun c1 => ?_
  ·
    refine zq_ite (fun c2 => ?_) fun c2 => ?_
    ·
      exact hQ _
    ·
      refine zq_ite (fun c3 => ?_) fun c3 => ?_
      ·
        refine zq_bind (q_f_Judge_guardsOf hN hJ fun r4 => ?_)
        exact hQ _
      ·
        exact hQ _
  ·
    exact hQ _

theorem q_f_X_rings {N : Nat} (hN : zBig ≤ N) {σ0 : zS} {σ : zS} {Q : (Int32 × zS) → Prop} (hJ : JX σ0 σ) (hQ : ∀ r, JX σ0 r.2 → Q r) : zq (zf_X_rings N σ) Q := by
  unfold zf_X_rings
  refine zq_ite (fun c1 => ?_) fun c1 => ?_
  ·
    refine zq_bind (q_f_Judge_prepare hN hJ fun r2 jr2 => ?_)
    exact hQ _ jr2
  ·
    exact hQ _ hJ
